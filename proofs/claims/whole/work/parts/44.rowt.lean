/-! L2: the reference's tells, trims, crashes, joins, parts. -/
theorem itn_tail {α : Type} {f : Nat → α → α} {n N : Nat} {a : α} (hn : n ≤ N) (h : ∀ k, n ≤ k → k < N → f k (itn f n 0 a) = itn f n 0 a) : itn f N 0 a = itn f n 0 a := by
  rw [show N = n + (N - n) by omega, itn_add, Nat.zero_add]
  exact itn_id _ _ (fun k h1 h2 => h k h1 (by omega))
theorem itn_s {α : Type} {f : Nat → α → α} : ∀ (d i : Nat) (a : α), itn f (d + 1) i a = f (i + d) (itn f d i a) := by
  intro d
  induction d with
  | zero =>
    intro i a
    rfl
  | succ d ih =>
    intro i a
    show itn f (d + 1) (i + 1) (f i a) = f (i + (d + 1)) (itn f d (i + 1) (f i a))
    rw [ih (i + 1) (f i a), show i + 1 + d = i + (d + 1) by omega]
/-- a loop of the reference over the members -/
theorem lp_row {β : Type} {L : Nat → Int32 → Mm → Option β} {f : Nat → St → St} {fin : Mm → Option β} {N w o t n : Nat} {lim : Int32} {m0 : Mm} {σ0 : St}
    {P : Nat → St → Prop}
    (hs : ∀ g i m σ, i < N → MC o t w n lim m → RR (rI m w) σ → P i σ → ∃ m', L (g + 1) (ni i) m = L g (ni (i + 1)) m' ∧ RR (rI m' w) (f i σ) ∧ Fm (fun b => b = w) m m' ∧ P (i + 1) (f i σ))
    (he : ∀ g m σ, MC o t w n lim m → RR (rI m w) σ → P N σ → L (g + 1) (ni N) m = fin m) (c : MC o t w n lim m0) (h : RR (rI m0 w) σ0) (hP : P 0 σ0) (hN : N < 100000) :
    ∃ m', L NF (ni 0) m0 = fin m' ∧ RR (rI m' w) (itn f N 0 σ0) ∧ Fm (fun b => b = w) m0 m' ∧ P N (itn f N 0 σ0) := by
  obtain ⟨m', e, h⟩ := lp_rel (L := L) (f := f) (N := N) (fin := fin) (R := fun i m σ => RR (rI m w) σ ∧ Fm (fun b => b = w) m0 m ∧ P i σ)
    (fun g i m σ hi hr => by
      obtain ⟨m', e, ha, hf, hp⟩ := hs g i m σ hi (MC_fr c hr.2.1) hr.1 hr.2.2
      exact ⟨m', e, ha, Fm_trans hr.2.1 hf, hp⟩)
    (fun g m σ hr => he g m σ (MC_fr c hr.2.1) hr.1 hr.2.2) N 0 NF m0 σ0 (by omega) (by unfold NF; omega) ⟨h, Fm_refl _ _, hP⟩
  exact ⟨m', e, h.1, h.2.1, h.2.2⟩
theorem tell_st {σ : St} {a i : Nat} : standing (tellF a i σ) = standing σ ∧ gI (tellF a i σ) 0 6 = gI σ 0 6 := by
  unfold tellF
  split
  · exact ⟨rfl, rfl⟩
  · split
    · exact ⟨rfl, rfl⟩
    · exact ⟨rfl, rfl⟩
theorem r_tells {o t w n B a : Nat} {lim : Int32} {m : Mm} {σ : St} (c : MC o t w n lim m) (h : RR (rI m w) σ) (hw : WF n B σ) (ha : a < 6) :
    UR w m (F_X12_tellsOthers o w (ni a) m) (b2i (tellS σ a).1) (tellS σ a).2 := by
  unfold F_X12_tellsOthers tellS
  have hn := WF_6 hw
  cases hs : stands σ a
  · simp (disch := first | omega | exact MC_ne c | ((repeat (first | exact c | apply MC_w1)); done) | decide) only [gd_t, bd_s, oc_s, oc_n, lt9_e, jn_e, okOwI, okAwI, okTwI, lnwI, okOwL, okAwL, okTwL, lnwL, rRwI, rRwL, sHwI, sHwL, rIwL, rLwI, bit_f, uf_ap, ↓if_pos, ↓if_neg, MC_o c, MC_t c, MC_0 c, MC_2 c, MC_n c, MC_l c, MC_w c, MC_wk c, rIw, rIw_ne, ni_le, ni_lt, ni_eq, ni_add, ni_mul, lni_le, lni_lt, nil_le, nil_lt, lni_eq, nil_eq, lni_add, nil_add, lni_mul, nil_mul, ix_ni, ix_lit, ni_ne1, ni_lt0, ↓reduceIte, Nat.reduceEqDiff, Nat.reduceMul, Nat.reduceAdd, Nat.reduceLeDiff, and_true, true_and, false_and, and_false, if_true, if_false, Nat.not_lt_zero, false_or, or_false, ft9, decide_true, o10, eq_self, b2i_0, b2i_1, b2i_ok, b2i_inj, b2i_t, b2i_f, r_inside c h, hs]
    exact ⟨m, rfl, h, Fm_refl _ _⟩
  · simp (disch := first | omega | exact MC_ne c | ((repeat (first | exact c | apply MC_w1)); done) | decide) only [gd_t, bd_s, oc_s, oc_n, lt9_e, jn_e, okOwI, okAwI, okTwI, lnwI, okOwL, okAwL, okTwL, lnwL, rRwI, rRwL, sHwI, sHwL, rIwL, rLwI, bit_f, uf_ap, ↓if_pos, ↓if_neg, MC_o c, MC_t c, MC_0 c, MC_2 c, MC_n c, MC_l c, MC_w c, MC_wk c, rIw, rIw_ne, ni_le, ni_lt, ni_eq, ni_add, ni_mul, lni_le, lni_lt, nil_le, nil_lt, lni_eq, nil_eq, lni_add, nil_add, lni_mul, nil_mul, ix_ni, ix_lit, ni_ne1, ni_lt0, ↓reduceIte, Nat.reduceEqDiff, Nat.reduceMul, Nat.reduceAdd, Nat.reduceLeDiff, and_true, true_and, false_and, and_false, if_true, if_false, Nat.not_lt_zero, false_or, or_false, ft9, decide_true, o10, eq_self, b2i_0, b2i_1, b2i_ok, b2i_inj, b2i_t, b2i_f, r_inside c h, hs]
    have z := lp_row (L := fun f i m => L_X12_tellsOthers_12 f o w (ni a) i m) (f := tellF a) (N := n) (fin := fun m => some ((1 : Int32), m)) (P := fun _ τ => standing τ = standing σ) ?_ ?_ c h rfl (by omega)
    · obtain ⟨m', e1, e2, e3, e4⟩ := z
      refine ⟨m', e1, ?_, e3⟩
      rw [itn_tail hn]
      · exact e2
      · intro k hk hk6
        rw [tellF, if_pos]
        unfold stands
        rw [e4]
        exact (bel_and hw.1.2.2.2.1) k hk
    · intro f i m τ hi c h hp
      show ∃ m', L_X12_tellsOthers_12 (f + 1) o w (ni a) (ni i) m = _ ∧ _
      rw [L_X12_tellsOthers_12]
      have hp' : standing (tellF a i τ) = standing σ := tell_st.1.trans hp
      unfold tellF at hp' ⊢
      have hr : reachI τ (ni a) (ni i) = (tb (gI τ 0 6) a == tb (gI τ 0 6) i) := by
        unfold reachI
        rw [has6_ni ha, has6_ni (by omega)]
      cases h1 : stands τ i
      · simp (disch := first | omega | exact MC_ne c | ((repeat (first | exact c | apply MC_w1)); done) | decide) only [gd_t, bd_s, oc_s, oc_n, lt9_e, jn_e, okOwI, okAwI, okTwI, lnwI, okOwL, okAwL, okTwL, lnwL, rRwI, rRwL, sHwI, sHwL, rIwL, rLwI, bit_f, uf_ap, ↓if_pos, ↓if_neg, MC_o c, MC_t c, MC_0 c, MC_2 c, MC_n c, MC_l c, MC_w c, MC_wk c, rIw, rIw_ne, ni_le, ni_lt, ni_eq, ni_add, ni_mul, lni_le, lni_lt, nil_le, nil_lt, lni_eq, nil_eq, lni_add, nil_add, lni_mul, nil_mul, ix_ni, ix_lit, ni_ne1, ni_lt0, ↓reduceIte, Nat.reduceEqDiff, Nat.reduceMul, Nat.reduceAdd, Nat.reduceLeDiff, and_true, true_and, false_and, and_false, if_true, if_false, Nat.not_lt_zero, false_or, or_false, ft9, decide_true, o10, eq_self, b2i_0, b2i_1, b2i_ok, b2i_inj, b2i_t, b2i_f, r_inside c h, h1]
        rw [h1] at hp'
        exact ⟨m, rfl, h, Fm_refl _ _, hp⟩
      · cases h2 : reachI τ (ni a) (ni i)
        · simp (disch := first | omega | exact MC_ne c | ((repeat (first | exact c | apply MC_w1)); done) | decide) only [gd_t, bd_s, oc_s, oc_n, lt9_e, jn_e, okOwI, okAwI, okTwI, lnwI, okOwL, okAwL, okTwL, lnwL, rRwI, rRwL, sHwI, sHwL, rIwL, rLwI, bit_f, uf_ap, ↓if_pos, ↓if_neg, MC_o c, MC_t c, MC_0 c, MC_2 c, MC_n c, MC_l c, MC_w c, MC_wk c, rIw, rIw_ne, ni_le, ni_lt, ni_eq, ni_add, ni_mul, lni_le, lni_lt, nil_le, nil_lt, lni_eq, nil_eq, lni_add, nil_add, lni_mul, nil_mul, ix_ni, ix_lit, ni_ne1, ni_lt0, ↓reduceIte, Nat.reduceEqDiff, Nat.reduceMul, Nat.reduceAdd, Nat.reduceLeDiff, and_true, true_and, false_and, and_false, if_true, if_false, Nat.not_lt_zero, false_or, or_false, ft9, decide_true, o10, eq_self, b2i_0, b2i_1, b2i_ok, b2i_inj, b2i_t, b2i_f, r_inside c h, h1, RR180 h, r_reaches, ← hr, h2, reduceCtorEq]
          exact ⟨m, rfl, h, Fm_refl _ _, hp⟩
        · have h3 := RR_lor2 (v := gI τ 4 (i * 6 + a) ||| gI τ 2 a) h (show i < 6 by omega) ha
          rw [← rIw] at h3
          simp (disch := first | omega | exact MC_ne c | ((repeat (first | exact c | apply MC_w1)); done) | decide) only [gd_t, bd_s, oc_s, oc_n, lt9_e, jn_e, okOwI, okAwI, okTwI, lnwI, okOwL, okAwL, okTwL, lnwL, rRwI, rRwL, sHwI, sHwL, rIwL, rLwI, bit_f, uf_ap, ↓if_pos, ↓if_neg, MC_o c, MC_t c, MC_0 c, MC_2 c, MC_n c, MC_l c, MC_w c, MC_wk c, rIw, rIw_ne, ni_le, ni_lt, ni_eq, ni_add, ni_mul, lni_le, lni_lt, nil_le, nil_lt, lni_eq, nil_eq, lni_add, nil_add, lni_mul, nil_mul, ix_ni, ix_lit, ni_ne1, ni_lt0, ↓reduceIte, Nat.reduceEqDiff, Nat.reduceMul, Nat.reduceAdd, Nat.reduceLeDiff, and_true, true_and, false_and, and_false, if_true, if_false, Nat.not_lt_zero, false_or, or_false, ft9, decide_true, o10, eq_self, b2i_0, b2i_1, b2i_ok, b2i_inj, b2i_t, b2i_f, r_inside c h, h1, RR180 h, r_reaches, ← hr, h2, reduceCtorEq, F_X12_knownOf, RRl h, RRg h]
          exact ⟨_, rfl, h3, (by repeat' (first | exact Fm_refl _ _ | apply Fm_wI | apply Fm_wL | rfl)), hp⟩
    · intro f m τ c h hp
      show L_X12_tellsOthers_12 (f + 1) o w (ni a) (ni n) m = _
      rw [L_X12_tellsOthers_12]
      simp (disch := first | omega | exact MC_ne c | ((repeat (first | exact c | apply MC_w1)); done) | decide) only [gd_t, bd_s, oc_s, oc_n, lt9_e, jn_e, okOwI, okAwI, okTwI, lnwI, okOwL, okAwL, okTwL, lnwL, rRwI, rRwL, sHwI, sHwL, rIwL, rLwI, bit_f, uf_ap, ↓if_pos, ↓if_neg, MC_o c, MC_t c, MC_0 c, MC_2 c, MC_n c, MC_l c, MC_w c, MC_wk c, rIw, rIw_ne, ni_le, ni_lt, ni_eq, ni_add, ni_mul, lni_le, lni_lt, nil_le, nil_lt, lni_eq, nil_eq, lni_add, nil_add, lni_mul, nil_mul, ix_ni, ix_lit, ni_ne1, ni_lt0, ↓reduceIte, Nat.reduceEqDiff, Nat.reduceMul, Nat.reduceAdd, Nat.reduceLeDiff, and_true, true_and, false_and, and_false, if_true, if_false, Nat.not_lt_zero, false_or, or_false, ft9, decide_true, o10, eq_self, b2i_0, b2i_1, b2i_ok, b2i_inj, b2i_t, b2i_f, Nat.le_refl]
theorem r_stableBy {o t w n B a : Nat} {lim : Int32} {m : Mm} {σ : St} (c : MC o t w n lim m) (h : RR (rI m w) σ) (hw : WF n B σ) (ha : a < 6) :
    F_X12_stableBy o w (ni a) m = some (stableBy σ a, m) := by
  unfold F_X12_stableBy stableBy
  have hn := WF_6 hw
  simp (disch := first | omega | exact MC_ne c | ((repeat (first | exact c | apply MC_w1)); done) | decide) only [gd_t, bd_s, oc_s, oc_n, lt9_e, jn_e, okOwI, okAwI, okTwI, lnwI, okOwL, okAwL, okTwL, lnwL, rRwI, rRwL, sHwI, sHwL, rIwL, rLwI, bit_f, uf_ap, ↓if_pos, ↓if_neg, MC_o c, MC_t c, MC_0 c, MC_2 c, MC_n c, MC_l c, MC_w c, MC_wk c, rIw, rIw_ne, ni_le, ni_lt, ni_eq, ni_add, ni_mul, lni_le, lni_lt, nil_le, nil_lt, lni_eq, nil_eq, lni_add, nil_add, lni_mul, nil_mul, ix_ni, ix_lit, ni_ne1, ni_lt0, ↓reduceIte, Nat.reduceEqDiff, Nat.reduceMul, Nat.reduceAdd, Nat.reduceLeDiff, and_true, true_and, false_and, and_false, if_true, if_false, Nat.not_lt_zero, false_or, or_false, ft9, decide_true, o10, eq_self, b2i_0, b2i_1, b2i_ok, b2i_inj, b2i_t, b2i_f, RR187 h]
  rw [itn_tail hn]
  · refine lp_eq (L := fun f i x => L_X12_stableBy_13 f o w (ni a) x i m) (f := stabF σ a) (N := n) (fin := fun x => some (x, m)) ?_ ?_ n 0 NF _ (by omega) (by unfold NF; omega)
    · intro f i x hi
      show L_X12_stableBy_13 (f + 1) o w (ni a) x (ni i) m = _
      rw [L_X12_stableBy_13]
      unfold stabF
      cases h1 : tb (gI σ 0 1) i
      · simp (disch := first | omega | exact MC_ne c | ((repeat (first | exact c | apply MC_w1)); done) | decide) only [gd_t, bd_s, oc_s, oc_n, lt9_e, jn_e, okOwI, okAwI, okTwI, lnwI, okOwL, okAwL, okTwL, lnwL, rRwI, rRwL, sHwI, sHwL, rIwL, rLwI, bit_f, uf_ap, ↓if_pos, ↓if_neg, MC_o c, MC_t c, MC_0 c, MC_2 c, MC_n c, MC_l c, MC_w c, MC_wk c, rIw, rIw_ne, ni_le, ni_lt, ni_eq, ni_add, ni_mul, lni_le, lni_lt, nil_le, nil_lt, lni_eq, nil_eq, lni_add, nil_add, lni_mul, nil_mul, ix_ni, ix_lit, ni_ne1, ni_lt0, ↓reduceIte, Nat.reduceEqDiff, Nat.reduceMul, Nat.reduceAdd, Nat.reduceLeDiff, and_true, true_and, false_and, and_false, if_true, if_false, Nat.not_lt_zero, false_or, or_false, ft9, decide_true, o10, eq_self, b2i_0, b2i_1, b2i_ok, b2i_inj, b2i_t, b2i_f, RR182 h, hasR, h1, Int32.and_self]
      · simp (disch := first | omega | exact MC_ne c | ((repeat (first | exact c | apply MC_w1)); done) | decide) only [gd_t, bd_s, oc_s, oc_n, lt9_e, jn_e, okOwI, okAwI, okTwI, lnwI, okOwL, okAwL, okTwL, lnwL, rRwI, rRwL, sHwI, sHwL, rIwL, rLwI, bit_f, uf_ap, ↓if_pos, ↓if_neg, MC_o c, MC_t c, MC_0 c, MC_2 c, MC_n c, MC_l c, MC_w c, MC_wk c, rIw, rIw_ne, ni_le, ni_lt, ni_eq, ni_add, ni_mul, lni_le, lni_lt, nil_le, nil_lt, lni_eq, nil_eq, lni_add, nil_add, lni_mul, nil_mul, ix_ni, ix_lit, ni_ne1, ni_lt0, ↓reduceIte, Nat.reduceEqDiff, Nat.reduceMul, Nat.reduceAdd, Nat.reduceLeDiff, and_true, true_and, false_and, and_false, if_true, if_false, Nat.not_lt_zero, false_or, or_false, ft9, decide_true, o10, eq_self, b2i_0, b2i_1, b2i_ok, b2i_inj, b2i_t, b2i_f, RR182 h, hasR, h1, reduceCtorEq, F_X12_knownOf, RRl h]
    · intro f x
      show L_X12_stableBy_13 (f + 1) o w (ni a) x (ni n) m = _
      rw [L_X12_stableBy_13]
      simp (disch := first | omega | exact MC_ne c | ((repeat (first | exact c | apply MC_w1)); done) | decide) only [gd_t, bd_s, oc_s, oc_n, lt9_e, jn_e, okOwI, okAwI, okTwI, lnwI, okOwL, okAwL, okTwL, lnwL, rRwI, rRwL, sHwI, sHwL, rIwL, rLwI, bit_f, uf_ap, ↓if_pos, ↓if_neg, MC_o c, MC_t c, MC_0 c, MC_2 c, MC_n c, MC_l c, MC_w c, MC_wk c, rIw, rIw_ne, ni_le, ni_lt, ni_eq, ni_add, ni_mul, lni_le, lni_lt, nil_le, nil_lt, lni_eq, nil_eq, lni_add, nil_add, lni_mul, nil_mul, ix_ni, ix_lit, ni_ne1, ni_lt0, ↓reduceIte, Nat.reduceEqDiff, Nat.reduceMul, Nat.reduceAdd, Nat.reduceLeDiff, and_true, true_and, false_and, and_false, if_true, if_false, Nat.not_lt_zero, false_or, or_false, ft9, decide_true, o10, eq_self, b2i_0, b2i_1, b2i_ok, b2i_inj, b2i_t, b2i_f, Nat.le_refl]
  · intro k hk hk6
    rw [stabF, if_pos (hw.1.2.1 k hk)]
theorem r_trims {o t w n B a : Nat} {lim : Int32} {m : Mm} {σ : St} (c : MC o t w n lim m) (h : RR (rI m w) σ) (hw : WF n B σ) (ha : a < 6) :
    ∃ σ', UR w m (F_X12_trims o w (ni a) m) (b2i (trimS σ a).1) σ' ∧ σ' = (trimS σ a).2 := by
  refine ⟨_, ?_, rfl⟩
  unfold F_X12_trims trimS
  simp (disch := first | omega | exact MC_ne c | ((repeat (first | exact c | apply MC_w1)); done) | decide) only [gd_t, bd_s, oc_s, oc_n, lt9_e, jn_e, okOwI, okAwI, okTwI, lnwI, okOwL, okAwL, okTwL, lnwL, rRwI, rRwL, sHwI, sHwL, rIwL, rLwI, bit_f, uf_ap, ↓if_pos, ↓if_neg, MC_o c, MC_t c, MC_0 c, MC_2 c, MC_n c, MC_l c, MC_w c, MC_wk c, rIw, rIw_ne, ni_le, ni_lt, ni_eq, ni_add, ni_mul, lni_le, lni_lt, nil_le, nil_lt, lni_eq, nil_eq, lni_add, nil_add, lni_mul, nil_mul, ix_ni, ix_lit, ni_ne1, ni_lt0, ↓reduceIte, Nat.reduceEqDiff, Nat.reduceMul, Nat.reduceAdd, Nat.reduceLeDiff, and_true, true_and, false_and, and_false, if_true, if_false, Nat.not_lt_zero, false_or, or_false, ft9, decide_true, o10, eq_self, b2i_0, b2i_1, b2i_ok, b2i_inj, b2i_t, b2i_f, r_stableBy c h hw ha, RRk h, r_inside c h]
  cases hs : stands σ a
  · simp (disch := first | omega | exact MC_ne c | ((repeat (first | exact c | apply MC_w1)); done) | decide) only [gd_t, bd_s, oc_s, oc_n, lt9_e, jn_e, okOwI, okAwI, okTwI, lnwI, okOwL, okAwL, okTwL, lnwL, rRwI, rRwL, sHwI, sHwL, rIwL, rLwI, bit_f, uf_ap, ↓if_pos, ↓if_neg, MC_o c, MC_t c, MC_0 c, MC_2 c, MC_n c, MC_l c, MC_w c, MC_wk c, rIw, rIw_ne, ni_le, ni_lt, ni_eq, ni_add, ni_mul, lni_le, lni_lt, nil_le, nil_lt, lni_eq, nil_eq, lni_add, nil_add, lni_mul, nil_mul, ix_ni, ix_lit, ni_ne1, ni_lt0, ↓reduceIte, Nat.reduceEqDiff, Nat.reduceMul, Nat.reduceAdd, Nat.reduceLeDiff, and_true, true_and, false_and, and_false, if_true, if_false, Nat.not_lt_zero, false_or, or_false, ft9, decide_true, o10, eq_self, b2i_0, b2i_1, b2i_ok, b2i_inj, b2i_t, b2i_f, reduceCtorEq]
    exact ⟨m, rfl, h, Fm_refl _ _⟩
  · have hc : stableBy σ a &&& gI σ 3 a = gI σ 3 a &&& stableBy σ a := Int32.and_comm _ _
    rw [hc]
    by_cases h0 : gI σ 3 a &&& stableBy σ a = 0
    · simp (disch := first | omega | exact MC_ne c | ((repeat (first | exact c | apply MC_w1)); done) | decide) only [gd_t, bd_s, oc_s, oc_n, lt9_e, jn_e, okOwI, okAwI, okTwI, lnwI, okOwL, okAwL, okTwL, lnwL, rRwI, rRwL, sHwI, sHwL, rIwL, rLwI, bit_f, uf_ap, ↓if_pos, ↓if_neg, MC_o c, MC_t c, MC_0 c, MC_2 c, MC_n c, MC_l c, MC_w c, MC_wk c, rIw, rIw_ne, ni_le, ni_lt, ni_eq, ni_add, ni_mul, lni_le, lni_lt, nil_le, nil_lt, lni_eq, nil_eq, lni_add, nil_add, lni_mul, nil_mul, ix_ni, ix_lit, ni_ne1, ni_lt0, ↓reduceIte, Nat.reduceEqDiff, Nat.reduceMul, Nat.reduceAdd, Nat.reduceLeDiff, and_true, true_and, false_and, and_false, if_true, if_false, Nat.not_lt_zero, false_or, or_false, ft9, decide_true, o10, eq_self, b2i_0, b2i_1, b2i_ok, b2i_inj, b2i_t, b2i_f, h0, reduceCtorEq, Bool.not_true]
      refine ⟨m, rfl, ?_, Fm_refl _ _⟩
      rw [tI_same]
      · exact h
      · apply tb_ext
        intro j hj
        rw [tb_and, tb_not, tb_0]
        simp [hj]
    · simp (disch := first | omega | exact MC_ne c | ((repeat (first | exact c | apply MC_w1)); done) | decide) only [gd_t, bd_s, oc_s, oc_n, lt9_e, jn_e, okOwI, okAwI, okTwI, lnwI, okOwL, okAwL, okTwL, lnwL, rRwI, rRwL, sHwI, sHwL, rIwL, rLwI, bit_f, uf_ap, ↓if_pos, ↓if_neg, MC_o c, MC_t c, MC_0 c, MC_2 c, MC_n c, MC_l c, MC_w c, MC_wk c, rIw, rIw_ne, ni_le, ni_lt, ni_eq, ni_add, ni_mul, lni_le, lni_lt, nil_le, nil_lt, lni_eq, nil_eq, lni_add, nil_add, lni_mul, nil_mul, ix_ni, ix_lit, ni_ne1, ni_lt0, ↓reduceIte, Nat.reduceEqDiff, Nat.reduceMul, Nat.reduceAdd, Nat.reduceLeDiff, and_true, true_and, false_and, and_false, if_true, if_false, Nat.not_lt_zero, false_or, or_false, ft9, decide_true, o10, eq_self, b2i_0, b2i_1, b2i_ok, b2i_inj, b2i_t, b2i_f, h0, reduceCtorEq, decide_false, Bool.not_false]
      have h1 := RR_kept (v := gI σ 3 a &&& ((gI σ 3 a &&& stableBy σ a) ^^^ (-1 : Int32))) h ha
      rw [← rIw] at h1
      exact ⟨_, rfl, h1, (by repeat' (first | exact Fm_refl _ _ | apply Fm_wI | apply Fm_wL | rfl))⟩
