/-! L2: the reference's forgets, crashes, joins. -/
theorem st_ext {σ τ : St} (h : ∀ b j, gI σ b j = gI τ b j) (h' : ∀ b j, gL σ b j = gL τ b j) : σ = τ :=
  Prod.ext (funext fun b => funext fun j => h b j) (funext fun b => funext fun j => h' b j)
theorem gI_crA (a : Nat) : ∀ (d i : Nat) (σ : St) (b j : Nat), gI (itn (crashA a) d i σ) b j = if b = 4 ∧ a * 6 + i ≤ j ∧ j < a * 6 + i + d then 0 else gI σ b j := by
  intro d
  induction d with
  | zero =>
    intro i σ b j
    rw [if_neg (by omega)]
    rfl
  | succ d ih =>
    intro i σ b j
    show gI (itn (crashA a) d (i + 1) (crashA a i σ)) b j = _
    rw [ih, crashA, gI_tI]
    by_cases e : b = 4 ∧ a * 6 + i ≤ j ∧ j < a * 6 + i + (d + 1)
    · rw [if_pos e]
      by_cases e2 : j = a * 6 + i
      · rw [if_neg (by omega), if_pos (by omega)]
      · rw [if_pos (by omega)]
    · rw [if_neg e, if_neg (by omega), if_neg (by omega)]
theorem gL_crA (a : Nat) : ∀ (d i : Nat) (σ : St) (b j : Nat), gL (itn (crashA a) d i σ) b j = gL σ b j := by
  intro d
  induction d with
  | zero =>
    intro i σ b j
    rfl
  | succ d ih =>
    intro i σ b j
    show gL (itn (crashA a) d (i + 1) (crashA a i σ)) b j = _
    rw [ih]
    rfl
theorem gI_crB (x : Int32) : ∀ (d i : Nat) (σ : St) (b j : Nat), gI (itn (crashB x) d i σ) b j = if b = 10 ∧ i ≤ j ∧ j < i + d then gI σ b j &&& x else gI σ b j := by
  intro d
  induction d with
  | zero =>
    intro i σ b j
    rw [if_neg (by omega)]
    rfl
  | succ d ih =>
    intro i σ b j
    show gI (itn (crashB x) d (i + 1) (crashB x i σ)) b j = _
    rw [ih, crashB, gI_tI]
    by_cases e : b = 10 ∧ i ≤ j ∧ j < i + (d + 1)
    · rw [if_pos e]
      by_cases e2 : j = i
      · rw [if_neg (by omega), if_pos (by omega), e.1, e2]
      · rw [if_pos (by omega), if_neg (by omega)]
    · rw [if_neg e, if_neg (by omega), if_neg (by omega)]
theorem gL_crB (x : Int32) : ∀ (d i : Nat) (σ : St) (b j : Nat), gL (itn (crashB x) d i σ) b j = gL σ b j := by
  intro d
  induction d with
  | zero =>
    intro i σ b j
    rfl
  | succ d ih =>
    intro i σ b j
    show gL (itn (crashB x) d (i + 1) (crashB x i σ)) b j = _
    rw [ih]
    rfl
def forgetS (σ : St) (a : Nat) : St := itn (crashA a) 6 0 (itn (crashB (bit a ^^^ (-1 : Int32))) 30 0 (tI (tI σ 2 a 0) 3 a 0))
theorem RR_way0 {ρ : Nat → Int32} {σ : St} {a : Nat} (h : RR ρ σ) (ha : a < 6) : RR (uf ρ (24 + a) 0) (itn (crashB (bit a ^^^ (-1 : Int32))) 30 0 σ) := by
  refine RR_way h (fun j hj => ?_) (fun b j hb => ?_) (fun b j => gL_crB _ _ _ _ _ _) (fun i hi k => ?_)
  · rw [uf_ap, if_neg (by omega)]
  · rw [gI_crB, if_neg (by omega)]
  · have z := RRw h hi k
    rw [uf_ap, gI_crB]
    by_cases hk : k < 30
    · rw [if_pos (show 10 = 10 ∧ 0 ≤ k ∧ k < 0 + 30 by omega), tb_and, tb_not, bit, tb_bit (by omega)]
      by_cases e : i = a
      · subst e
        rw [if_pos rfl, tb_0]
        simp
      · rw [if_neg (by omega), z]
        have : i < 32 := by omega
        simp [e, this]
    · by_cases e : i = a
      · subst e
        rw [if_pos rfl, tb_0]
        simp [hk]
      · rw [if_neg (by omega), z]
        simp [hk]
theorem r_forgets {o t w n a : Nat} {lim : Int32} {m : Mm} {σ : St} (c : MC o t w n lim m) (h : RR (rI m w) σ) (ha : a < 6) :
    UR w m (F_X12_forgets w (ni a) m) () (forgetS σ a) := by
  unfold F_X12_forgets forgetS
  have h1 := RR_way0 (RR_kept (v := 0) (RR_got (v := 0) h ha) ha) ha
  have f1 : Fm (fun b => b = w) m (wI (wI (wI m w (12 + a) 0) w (18 + a) 0) w (24 + a) 0) := (by repeat' (first | exact Fm_refl _ _ | apply Fm_wI | apply Fm_wL | rfl))
  rw [← rIw, ← rIw, ← rIw] at h1
  simp (disch := first | omega | exact MC_ne c | ((repeat (first | exact c | apply MC_w1)); done) | decide) only [gd_t, bd_s, oc_s, oc_n, lt9_e, jn_e, okOwI, okAwI, okTwI, lnwI, okOwL, okAwL, okTwL, lnwL, rRwI, rRwL, sHwI, sHwL, rIwL, rLwI, bit_f, uf_ap, ↓if_pos, ↓if_neg, MC_o c, MC_t c, MC_0 c, MC_2 c, MC_n c, MC_l c, MC_w c, MC_wk c, rIw, rIw_ne, ni_le, ni_lt, ni_eq, ni_add, ni_mul, lni_le, lni_lt, nil_le, nil_lt, lni_eq, nil_eq, lni_add, nil_add, lni_mul, nil_mul, ix_ni, ix_lit, ni_ne1, ni_lt0, ↓reduceIte, Nat.reduceEqDiff, Nat.reduceMul, Nat.reduceAdd, Nat.reduceLeDiff, and_true, true_and, false_and, and_false, if_true, if_false, Nat.not_lt_zero, false_or, or_false, ft9, decide_true, o10, eq_self, b2i_0, b2i_1, b2i_ok, b2i_inj, b2i_t, b2i_f]
  have z := lp_row (L := fun f i m => L_X12_forgets_23 f w (ni a) i m) (f := crashA a) (N := 6) (fin := fun m => some ((), m)) (P := fun _ _ => True) ?_ ?_ (MC_fr c f1) h1 trivial (by omega)
  · obtain ⟨m', e1, e2, e3, e4⟩ := z
    exact ⟨m', e1, e2, Fm_trans f1 e3⟩
  · intro f i m τ hi c h hp
    show ∃ m', L_X12_forgets_23 (f + 1) w (ni a) (ni i) m = _ ∧ _
    rw [L_X12_forgets_23]
    have h3 := RR_lor2 (v := 0) h ha hi
    rw [← rIw] at h3
    simp (disch := first | omega | exact MC_ne c | ((repeat (first | exact c | apply MC_w1)); done) | decide) only [gd_t, bd_s, oc_s, oc_n, lt9_e, jn_e, okOwI, okAwI, okTwI, lnwI, okOwL, okAwL, okTwL, lnwL, rRwI, rRwL, sHwI, sHwL, rIwL, rLwI, bit_f, uf_ap, ↓if_pos, ↓if_neg, MC_o c, MC_t c, MC_0 c, MC_2 c, MC_n c, MC_l c, MC_w c, MC_wk c, rIw, rIw_ne, ni_le, ni_lt, ni_eq, ni_add, ni_mul, lni_le, lni_lt, nil_le, nil_lt, lni_eq, nil_eq, lni_add, nil_add, lni_mul, nil_mul, ix_ni, ix_lit, ni_ne1, ni_lt0, ↓reduceIte, Nat.reduceEqDiff, Nat.reduceMul, Nat.reduceAdd, Nat.reduceLeDiff, and_true, true_and, false_and, and_false, if_true, if_false, Nat.not_lt_zero, false_or, or_false, ft9, decide_true, o10, eq_self, b2i_0, b2i_1, b2i_ok, b2i_inj, b2i_t, b2i_f, F_X12_knownOf]
    exact ⟨_, rfl, h3, (by repeat' (first | exact Fm_refl _ _ | apply Fm_wI | apply Fm_wL | rfl))⟩
  · intro f m τ c h hp
    show L_X12_forgets_23 (f + 1) w (ni a) (ni 6) m = _
    rw [L_X12_forgets_23]
    simp (disch := first | omega | exact MC_ne c | ((repeat (first | exact c | apply MC_w1)); done) | decide) only [gd_t, bd_s, oc_s, oc_n, lt9_e, jn_e, okOwI, okAwI, okTwI, lnwI, okOwL, okAwL, okTwL, lnwL, rRwI, rRwL, sHwI, sHwL, rIwL, rLwI, bit_f, uf_ap, ↓if_pos, ↓if_neg, MC_o c, MC_t c, MC_0 c, MC_2 c, MC_n c, MC_l c, MC_w c, MC_wk c, rIw, rIw_ne, ni_le, ni_lt, ni_eq, ni_add, ni_mul, lni_le, lni_lt, nil_le, nil_lt, lni_eq, nil_eq, lni_add, nil_add, lni_mul, nil_mul, ix_ni, ix_lit, ni_ne1, ni_lt0, ↓reduceIte, Nat.reduceEqDiff, Nat.reduceMul, Nat.reduceAdd, Nat.reduceLeDiff, and_true, true_and, false_and, and_false, if_true, if_false, Nat.not_lt_zero, false_or, or_false, ft9, decide_true, o10, eq_self, b2i_0, b2i_1, b2i_ok, b2i_inj, b2i_t, b2i_f, Nat.le_refl]
theorem crash_eq {σ : St} {a : Nat} {x : Int32} : itn (crashB x) 30 0 (itn (crashA a) 6 0 σ) = itn (crashA a) 6 0 (itn (crashB x) 30 0 σ) := by
  refine st_ext (fun b j => ?_) (fun b j => ?_)
  · simp only [gI_crA, gI_crB]
    by_cases e : b = 4
    · subst e
      simp
    · simp [e]
  · simp only [gL_crA, gL_crB]
theorem r_crashes {o t w n a : Nat} {lim : Int32} {m : Mm} {σ : St} (c : MC o t w n lim m) (h : RR (rI m w) σ) (ha : a < 6) :
    UR w m (F_X12_crashes w (ni a) m) (b2i (crashS σ a).1) (crashS σ a).2 := by
  unfold F_X12_crashes crashS
  cases hu : tb (gI σ 0 3) a
  · simp (disch := first | omega | exact MC_ne c | ((repeat (first | exact c | apply MC_w1)); done) | decide) only [gd_t, bd_s, oc_s, oc_n, lt9_e, jn_e, okOwI, okAwI, okTwI, lnwI, okOwL, okAwL, okTwL, lnwL, rRwI, rRwL, sHwI, sHwL, rIwL, rLwI, bit_f, uf_ap, ↓if_pos, ↓if_neg, MC_o c, MC_t c, MC_0 c, MC_2 c, MC_n c, MC_l c, MC_w c, MC_wk c, rIw, rIw_ne, ni_le, ni_lt, ni_eq, ni_add, ni_mul, lni_le, lni_lt, nil_le, nil_lt, lni_eq, nil_eq, lni_add, nil_add, lni_mul, nil_mul, ix_ni, ix_lit, ni_ne1, ni_lt0, ↓reduceIte, Nat.reduceEqDiff, Nat.reduceMul, Nat.reduceAdd, Nat.reduceLeDiff, and_true, true_and, false_and, and_false, if_true, if_false, Nat.not_lt_zero, false_or, or_false, ft9, decide_true, o10, eq_self, b2i_0, b2i_1, b2i_ok, b2i_inj, b2i_t, b2i_f, RR184 h, hasR, hu]
    exact ⟨m, rfl, h, Fm_refl _ _⟩
  · have h1 := RR_held0 (RR_f5 (v := gI σ 0 5 &&& (bit a ^^^ (-1 : Int32))) (RR_f4 (v := gI σ 0 4 &&& (bit a ^^^ (-1 : Int32))) (RR_f2 (v := gI σ 0 2 &&& (bit a ^^^ (-1 : Int32))) (RR_f3 (v := gI σ 0 3 &&& (bit a ^^^ (-1 : Int32))) h)))) ha
    have f1 : Fm (fun b => b = w) m (wI (wI (wI (wI (wI m w 184 (gI σ 0 3 &&& (bit a ^^^ (-1 : Int32)))) w 183 (gI σ 0 2 &&& (bit a ^^^ (-1 : Int32)))) w 185 (gI σ 0 4 &&& (bit a ^^^ (-1 : Int32)))) w 186 (gI σ 0 5 &&& (bit a ^^^ (-1 : Int32)))) w (30 + a) 0) := (by repeat' (first | exact Fm_refl _ _ | apply Fm_wI | apply Fm_wL | rfl))
    rw [← rIw, ← rIw, ← rIw, ← rIw, ← rIw] at h1
    obtain ⟨m', x1, x2, x3⟩ := r_forgets (MC_fr c f1) h1 ha
    simp (disch := first | omega | exact MC_ne c | ((repeat (first | exact c | apply MC_w1)); done) | decide) only [gd_t, bd_s, oc_s, oc_n, lt9_e, jn_e, okOwI, okAwI, okTwI, lnwI, okOwL, okAwL, okTwL, lnwL, rRwI, rRwL, sHwI, sHwL, rIwL, rLwI, bit_f, uf_ap, ↓if_pos, ↓if_neg, MC_o c, MC_t c, MC_0 c, MC_2 c, MC_n c, MC_l c, MC_w c, MC_wk c, rIw, rIw_ne, ni_le, ni_lt, ni_eq, ni_add, ni_mul, lni_le, lni_lt, nil_le, nil_lt, lni_eq, nil_eq, lni_add, nil_add, lni_mul, nil_mul, ix_ni, ix_lit, ni_ne1, ni_lt0, ↓reduceIte, Nat.reduceEqDiff, Nat.reduceMul, Nat.reduceAdd, Nat.reduceLeDiff, and_true, true_and, false_and, and_false, if_true, if_false, Nat.not_lt_zero, false_or, or_false, ft9, decide_true, o10, eq_self, b2i_0, b2i_1, b2i_ok, b2i_inj, b2i_t, b2i_f, RR184 h, RR183 h, RR185 h, RR186 h, hasR, hu, x1, reduceCtorEq]
    refine ⟨m', rfl, ?_, Fm_trans f1 x3⟩
    rw [crash_eq]
    exact x2
theorem r_joins {o t w n a : Nat} {lim : Int32} {m : Mm} {σ : St} (c : MC o t w n lim m) (h : RR (rI m w) σ) (ha : a < 6) :
    UR w m (F_X12_joins w (ni a) m) (b2i (joinS σ a).1) (joinS σ a).2 := by
  unfold F_X12_joins joinS
  cases hs : stands σ a
  · cases hu : tb (gI σ 0 5) a
    · have h1 := RR_f5 (v := gI σ 0 5 ||| bit a) (RR_f3 (v := gI σ 0 3 ||| bit a) h)
      rw [← rIw, ← rIw] at h1
      simp (disch := first | omega | exact MC_ne c | ((repeat (first | exact c | apply MC_w1)); done) | decide) only [gd_t, bd_s, oc_s, oc_n, lt9_e, jn_e, okOwI, okAwI, okTwI, lnwI, okOwL, okAwL, okTwL, lnwL, rRwI, rRwL, sHwI, sHwL, rIwL, rLwI, bit_f, uf_ap, ↓if_pos, ↓if_neg, MC_o c, MC_t c, MC_0 c, MC_2 c, MC_n c, MC_l c, MC_w c, MC_wk c, rIw, rIw_ne, ni_le, ni_lt, ni_eq, ni_add, ni_mul, lni_le, lni_lt, nil_le, nil_lt, lni_eq, nil_eq, lni_add, nil_add, lni_mul, nil_mul, ix_ni, ix_lit, ni_ne1, ni_lt0, ↓reduceIte, Nat.reduceEqDiff, Nat.reduceMul, Nat.reduceAdd, Nat.reduceLeDiff, and_true, true_and, false_and, and_false, if_true, if_false, Nat.not_lt_zero, false_or, or_false, ft9, decide_true, o10, eq_self, b2i_0, b2i_1, b2i_ok, b2i_inj, b2i_t, b2i_f, r_inside c h, hs, RR184 h, RR186 h, hasR, hu, reduceCtorEq]
      exact ⟨_, rfl, h1, (by repeat' (first | exact Fm_refl _ _ | apply Fm_wI | apply Fm_wL | rfl))⟩
    · simp (disch := first | omega | exact MC_ne c | ((repeat (first | exact c | apply MC_w1)); done) | decide) only [gd_t, bd_s, oc_s, oc_n, lt9_e, jn_e, okOwI, okAwI, okTwI, lnwI, okOwL, okAwL, okTwL, lnwL, rRwI, rRwL, sHwI, sHwL, rIwL, rLwI, bit_f, uf_ap, ↓if_pos, ↓if_neg, MC_o c, MC_t c, MC_0 c, MC_2 c, MC_n c, MC_l c, MC_w c, MC_wk c, rIw, rIw_ne, ni_le, ni_lt, ni_eq, ni_add, ni_mul, lni_le, lni_lt, nil_le, nil_lt, lni_eq, nil_eq, lni_add, nil_add, lni_mul, nil_mul, ix_ni, ix_lit, ni_ne1, ni_lt0, ↓reduceIte, Nat.reduceEqDiff, Nat.reduceMul, Nat.reduceAdd, Nat.reduceLeDiff, and_true, true_and, false_and, and_false, if_true, if_false, Nat.not_lt_zero, false_or, or_false, ft9, decide_true, o10, eq_self, b2i_0, b2i_1, b2i_ok, b2i_inj, b2i_t, b2i_f, r_inside c h, hs, RR184 h, RR186 h, hasR, hu, reduceCtorEq]
      exact ⟨m, rfl, h, Fm_refl _ _⟩
  · simp (disch := first | omega | exact MC_ne c | ((repeat (first | exact c | apply MC_w1)); done) | decide) only [gd_t, bd_s, oc_s, oc_n, lt9_e, jn_e, okOwI, okAwI, okTwI, lnwI, okOwL, okAwL, okTwL, lnwL, rRwI, rRwL, sHwI, sHwL, rIwL, rLwI, bit_f, uf_ap, ↓if_pos, ↓if_neg, MC_o c, MC_t c, MC_0 c, MC_2 c, MC_n c, MC_l c, MC_w c, MC_wk c, rIw, rIw_ne, ni_le, ni_lt, ni_eq, ni_add, ni_mul, lni_le, lni_lt, nil_le, nil_lt, lni_eq, nil_eq, lni_add, nil_add, lni_mul, nil_mul, ix_ni, ix_lit, ni_ne1, ni_lt0, ↓reduceIte, Nat.reduceEqDiff, Nat.reduceMul, Nat.reduceAdd, Nat.reduceLeDiff, and_true, true_and, false_and, and_false, if_true, if_false, Nat.not_lt_zero, false_or, or_false, ft9, decide_true, o10, eq_self, b2i_0, b2i_1, b2i_ok, b2i_inj, b2i_t, b2i_f, r_inside c h, hs, reduceCtorEq]
    exact ⟨m, rfl, h, Fm_refl _ _⟩
