/-! L2: hold and view: class and reference. -/
theorem r_holds {n len w B : Nat} {lim : Int32} {cs : Nat → Nat} {σ : St} {m : Mm} (hw : w = 473 ∨ w = 474) (wf : WF n B σ) (c : RC n lim len cs m) (h : RR (rI m w) σ) :
    ∃ m', F_X12_holds 49 w m = some (b2i (holdS cs len n σ).1, m') ∧ RR (rI m' w) (holdS cs len n σ).2 ∧ Fm (AW w) m m' := by
  obtain ⟨m1, e1, f1⟩ := r_surv hw wf c h
  have c1 := RC_q c f1
  have h1 : RR (rI m1 w) σ := by rw [AR_w hw f1]; exact h
  obtain ⟨m2, e2, f2⟩ := r_primOf hw wf c1 h1
  have c2 := RC_q c1 f2
  have h2 : RR (rI m2 w) σ := by rw [AR_w hw f2]; exact h1
  have f12 : Fm (AW w) m m2 := AR_AW (Fm_trans f1 f2)
  unfold F_X12_holds holdS
  have k := RC_MC c hw
  have k1 := RC_MC c1 hw
  have k2 := RC_MC c2 hw
  have ok0 := MC_o k
  have ok1 := MC_o k1
  by_cases q : partN cs len n σ = -1
  · rw [if_pos q]
    refine ⟨m2, ?_, h2, f12⟩
    simp only [ok0, ok1, gd_t, e1, e2, bd_s, lt9_e, q, if_true, b2i_f]
  · have es : survN cs len n σ = partN cs len n σ &&& standing σ := by unfold survN; rw [if_neg q]
    rw [if_neg q]
    rw [es] at e1
    by_cases q2 : (partN cs len n σ &&& standing σ) &&& (gI σ 0 4 ^^^ (-1 : Int32)) = 0
    · rw [if_pos q2]
      refine ⟨m2, ?_, h2, f12⟩
      have c := k2
      simp (disch := first | omega | exact MC_ne c | ((repeat (first | exact c | apply MC_w1)); done) | decide) only [gd_t, bd_s, oc_s, oc_n, lt9_e, jn_e, okOwI, okAwI, okTwI, lnwI, okOwL, okAwL, okTwL, lnwL, rRwI, rRwL, sHwI, sHwL, rIwL, rLwI, bit_f, uf_ap, ↓if_pos, ↓if_neg, MC_o c, MC_t c, MC_0 c, MC_2 c, MC_n c, MC_l c, MC_w c, MC_wk c, rIw, rIw_ne, ni_le, ni_lt, ni_eq, ni_add, ni_mul, lni_le, lni_lt, nil_le, nil_lt, lni_eq, nil_eq, lni_add, nil_add, lni_mul, nil_mul, ix_ni, ix_lit, ni_ne1, ni_lt0, ↓reduceIte, Nat.reduceEqDiff, Nat.reduceMul, Nat.reduceAdd, Nat.reduceLeDiff, and_true, true_and, false_and, and_false, if_true, if_false, Nat.not_lt_zero, false_or, or_false, ft9, decide_true, o10, eq_self, b2i_0, b2i_1, b2i_ok, b2i_inj, b2i_t, b2i_f, ok0, ok1, e1, e2, q, RR185 h2, q2]
    · rw [if_neg q2]
      have h3 := RR_f4 (v := gI σ 0 4 ||| (partN cs len n σ &&& standing σ)) h2
      rw [← rIw] at h3
      refine ⟨_, ?_, h3, Fm_wI f12 (.inl rfl)⟩
      have c := k2
      simp (disch := first | omega | exact MC_ne c | ((repeat (first | exact c | apply MC_w1)); done) | decide) only [gd_t, bd_s, oc_s, oc_n, lt9_e, jn_e, okOwI, okAwI, okTwI, lnwI, okOwL, okAwL, okTwL, lnwL, rRwI, rRwL, sHwI, sHwL, rIwL, rLwI, bit_f, uf_ap, ↓if_pos, ↓if_neg, MC_o c, MC_t c, MC_0 c, MC_2 c, MC_n c, MC_l c, MC_w c, MC_wk c, rIw, rIw_ne, ni_le, ni_lt, ni_eq, ni_add, ni_mul, lni_le, lni_lt, nil_le, nil_lt, lni_eq, nil_eq, lni_add, nil_add, lni_mul, nil_mul, ix_ni, ix_lit, ni_ne1, ni_lt0, ↓reduceIte, Nat.reduceEqDiff, Nat.reduceMul, Nat.reduceAdd, Nat.reduceLeDiff, and_true, true_and, false_and, and_false, if_true, if_false, Nat.not_lt_zero, false_or, or_false, ft9, decide_true, o10, eq_self, b2i_0, b2i_1, b2i_ok, b2i_inj, b2i_t, b2i_f, ok0, ok1, e1, e2, q, RR185 h2, q2]
/-! comers -/
theorem r_comesIn {w n a l : Nat} {lim : Int32} {m : Mm} {σ : St} (c : MC 49 53 w n lim m) (h : RR (rI m w) σ) (ha : a < 6) (hl : l < 6) (hg : 0 < gI σ 1 a + 1) : UR w m (F_X12_comesIn 49 w (ni a) (ni l) m) () (comeS σ a l) := by
  unfold F_X12_comesIn comeS
  have hage : rI m w a = gI σ 1 a := RRa h ha
  have c1 : MC 49 53 w n lim (wI m w a (gI σ 1 a + 1)) := MC_w1 c
  have e1 : F_X12_wide w (ni (188 + 2 * l)) (wI m w a (gI σ 1 a + 1)) = some (gL σ 11 l, wI m w a (gI σ 1 a + 1)) := by
    rw [r_wide c1 (by omega), rIw, uf_ne (by omega), uf_ne (by omega), (RRu h hl).1, (RRu h hl).2, hl_join]
  have e2 := r_widens (j := 188 + 2 * a) (v := gL σ 11 l) c1 (by omega)
  have h1 := RR_come (s := gL σ 11 l) h ha hg
  rw [← rIw, ← rIw, ← rIw, ← rIw] at h1
  have c2 : MC 49 53 w n lim (wI (wI (wI (wI m w a (gI σ 1 a + 1)) w (188 + 2 * a) (hi9 (gL σ 11 l))) w (188 + 2 * a + 1) (lo9 (gL σ 11 l))) w (6 + a) 0) := MC_w1 (MC_w1 (MC_w1 c1))
  have hg2 : 0 < gI (tI (tL (tI σ 1 a (gI σ 1 a + 1)) 11 a (gL σ 11 l)) 7 a 0) 1 a := by
    rw [gI_tI, if_neg (by omega), gI_tL, gI_tI, if_pos ⟨rfl, rfl⟩]
    exact hg
  have hx : gI (tI (tL (tI σ 1 a (gI σ 1 a + 1)) 11 a (gL σ 11 l)) 7 a 0) 7 a = ni 0 := by rw [gI_tI, if_pos ⟨rfl, rfl⟩]; rfl
  obtain ⟨m', x1, x2, x3⟩ := r_logs c2 h1 ha hg2 (e := 0) (by omega) hx
  refine ⟨m', ?_, x2, Fm_trans (by repeat' (first | exact Fm_refl _ _ | apply Fm_wI | apply Fm_wL | rfl)) x3.1⟩
  simp (disch := first | omega | exact MC_ne c | ((repeat (first | exact c | apply MC_w1)); done) | decide) only [gd_t, bd_s, oc_s, oc_n, lt9_e, jn_e, okOwI, okAwI, okTwI, lnwI, okOwL, okAwL, okTwL, lnwL, rRwI, rRwL, sHwI, sHwL, rIwL, rLwI, bit_f, uf_ap, ↓if_pos, ↓if_neg, MC_o c, MC_t c, MC_0 c, MC_2 c, MC_n c, MC_l c, MC_w c, MC_wk c, rIw, rIw_ne, ni_le, ni_lt, ni_eq, ni_add, ni_mul, lni_le, lni_lt, nil_le, nil_lt, lni_eq, nil_eq, lni_add, nil_add, lni_mul, nil_mul, ix_ni, ix_lit, ni_ne1, ni_lt0, ↓reduceIte, Nat.reduceEqDiff, Nat.reduceMul, Nat.reduceAdd, Nat.reduceLeDiff, and_true, true_and, false_and, and_false, if_true, if_false, Nat.not_lt_zero, false_or, or_false, ft9, decide_true, o10, eq_self, b2i_0, b2i_1, b2i_ok, b2i_inj, b2i_t, b2i_f, Nat.zero_add, hage, e1, e2, x1]
theorem r_viewL {K : Nat → Nat → Int32 → Int32 → Mm → Option (Int32 × Mm)} {w n B : Nat} {lim x jo : Int32} {m : Mm} {σ : St} (c : MC 49 53 w n lim m) (h : RR (rI m w) σ) (wf : WF n B σ) (hb6 : bel 6 x) (hx0 : x ≠ 0) (hxa : ∀ a, a < 6 → tb x a = true → Lg σ a) :
    ∃ m', L_X12_views_65 K NF 49 w x jo 0 m = K 49 w x jo m' ∧ RR (rI m' w) (itn (rvF x jo (lst x)) n 0 σ) ∧ Fm (fun b => b = w) m m' := by
  have hn := WF_6 wf
  have l6 := lst_6 x
  have z := lp_row (L := fun f i m => L_X12_views_65 K f 49 w x jo i m) (f := rvF x jo (lst x)) (N := n) (fin := fun m => K 49 w x jo m) (P := fun i τ => (∀ j, i ≤ j → gI τ 1 j = gI σ 1 j) ∧ gI τ 0 2 = gI σ 0 2) ?_ ?_ c h ⟨fun _ _ => rfl, rfl⟩ (by omega)
  · obtain ⟨m', e1, e2, e3, e4⟩ := z
    exact ⟨m', e1, e2, e3⟩
  · intro f i m τ hi c h hp
    obtain ⟨p1, p2⟩ := hp
    show ∃ m', L_X12_views_65 K (f + 1) 49 w x jo (ni i) m = _ ∧ _
    rw [L_X12_views_65]
    have hP : ∀ τ' : St, (∀ j, j ≠ i → gI τ' 1 j = gI τ 1 j) → gI τ' 0 2 = gI τ 0 2 → (∀ j, i + 1 ≤ j → gI (forgetS τ' i) 1 j = gI σ 1 j) ∧ gI (forgetS τ' i) 0 2 = gI σ 0 2 := by
      intro τ' q1 q2
      refine ⟨fun j hj => ?_, ?_⟩
      · rw [gI_forg, if_neg (by omega), if_neg (by omega), if_neg (by omega), q1 j (by omega)]
        exact p1 j (by omega)
      · rw [gI_forg, if_neg (by omega), if_neg (by omega), if_neg (by omega), q2]
        exact p2
    obtain ⟨b, b1, b2, b3, b4⟩ := wf.2.1.2.2.2.2.2.2.2.2.2.1
    obtain ⟨g, g1, g2, g3, g4⟩ := b4 i (by omega)
    have hB := wf.2.2
    have eg : gI τ 1 i = ni g := (p1 i (Nat.le_refl _)).trans g2
    unfold rvF rvA
    cases q1 : tb jo i
    · cases q2 : tb x i
      · cases q3 : tb (gI τ 0 2) i
        · obtain ⟨m', x1, x2, x3⟩ := r_forgets (a := i) c h (by omega)
          simp only [reduceCtorEq, if_false]
          refine ⟨m', ?_, x2, x3, hP τ (fun _ _ => rfl) rfl⟩
          simp (disch := first | omega | exact MC_ne c | ((repeat (first | exact c | apply MC_w1)); done) | decide) only [gd_t, bd_s, oc_s, oc_n, lt9_e, jn_e, okOwI, okAwI, okTwI, lnwI, okOwL, okAwL, okTwL, lnwL, rRwI, rRwL, sHwI, sHwL, rIwL, rLwI, bit_f, uf_ap, ↓if_pos, ↓if_neg, MC_o c, MC_t c, MC_0 c, MC_2 c, MC_n c, MC_l c, MC_w c, MC_wk c, rIw, rIw_ne, ni_le, ni_lt, ni_eq, ni_add, ni_mul, lni_le, lni_lt, nil_le, nil_lt, lni_eq, nil_eq, lni_add, nil_add, lni_mul, nil_mul, ix_ni, ix_lit, ni_ne1, ni_lt0, ↓reduceIte, Nat.reduceEqDiff, Nat.reduceMul, Nat.reduceAdd, Nat.reduceLeDiff, and_true, true_and, false_and, and_false, if_true, if_false, Nat.not_lt_zero, false_or, or_false, ft9, decide_true, o10, eq_self, b2i_0, b2i_1, b2i_ok, b2i_inj, b2i_t, b2i_f, hasR, q1, q2, RR183 h, q3, x1, reduceCtorEq]
        · have h1 := RR_held0 (a := i) (RR_f4 (v := gI τ 0 4 &&& (bit i ^^^ (-1 : Int32))) h) (by omega)
          have f1 : Fm (fun b => b = w) m (wI (wI m w 185 (gI τ 0 4 &&& (bit i ^^^ (-1 : Int32)))) w (30 + i) 0) := (by repeat' (first | exact Fm_refl _ _ | apply Fm_wI | apply Fm_wL | rfl))
          rw [← rIw, ← rIw] at h1
          obtain ⟨m', x1, x2, x3⟩ := r_forgets (a := i) (MC_fr c f1) h1 (by omega)
          simp only [reduceCtorEq, if_false, if_true]
          refine ⟨m', ?_, x2, Fm_trans f1 x3, hP _ (fun j hj => by rw [gI_tI, if_neg (by omega), gI_tI, if_neg (by omega)]) rfl⟩
          simp (disch := first | omega | exact MC_ne c | ((repeat (first | exact c | apply MC_w1)); done) | decide) only [gd_t, bd_s, oc_s, oc_n, lt9_e, jn_e, okOwI, okAwI, okTwI, lnwI, okOwL, okAwL, okTwL, lnwL, rRwI, rRwL, sHwI, sHwL, rIwL, rLwI, bit_f, uf_ap, ↓if_pos, ↓if_neg, MC_o c, MC_t c, MC_0 c, MC_2 c, MC_n c, MC_l c, MC_w c, MC_wk c, rIw, rIw_ne, ni_le, ni_lt, ni_eq, ni_add, ni_mul, lni_le, lni_lt, nil_le, nil_lt, lni_eq, nil_eq, lni_add, nil_add, lni_mul, nil_mul, ix_ni, ix_lit, ni_ne1, ni_lt0, ↓reduceIte, Nat.reduceEqDiff, Nat.reduceMul, Nat.reduceAdd, Nat.reduceLeDiff, and_true, true_and, false_and, and_false, if_true, if_false, Nat.not_lt_zero, false_or, or_false, ft9, decide_true, o10, eq_self, b2i_0, b2i_1, b2i_ok, b2i_inj, b2i_t, b2i_f, hasR, q1, q2, RR183 h, RR185 h, q3, x1, F_X12_leavesOut, reduceCtorEq]
      · have hlg := hxa i (by omega) q2
        have hage : 0 < gI τ 1 i := by
          rw [p1 i (Nat.le_refl _)]
          exact hlg.1
        have hv : 0 < gI τ 1 i + 1 := by
          rw [eg, show ni g + 1 = ni (g + 1) from ni_add g 1]
          exact (ni_lt (a := 0) (by omega) (by omega)).mpr (by omega)
        have h1 := RR_age (a := i) h (by omega) hage hv
        have f1 : Fm (fun b => b = w) m (wI m w i (gI τ 1 i + 1)) := (by repeat' (first | exact Fm_refl _ _ | apply Fm_wI | apply Fm_wL | rfl))
        rw [← rIw] at h1
        obtain ⟨m', x1, x2, x3⟩ := r_forgets (a := i) (MC_fr c f1) h1 (by omega)
        have ha : rI m w i = gI τ 1 i := RRa h (by omega)
        simp only [reduceCtorEq, if_false, if_true]
        refine ⟨m', ?_, x2, Fm_trans f1 x3, hP _ (fun j hj => by rw [gI_tI, if_neg (by omega)]) rfl⟩
        simp (disch := first | omega | exact MC_ne c | ((repeat (first | exact c | apply MC_w1)); done) | decide) only [gd_t, bd_s, oc_s, oc_n, lt9_e, jn_e, okOwI, okAwI, okTwI, lnwI, okOwL, okAwL, okTwL, lnwL, rRwI, rRwL, sHwI, sHwL, rIwL, rLwI, bit_f, uf_ap, ↓if_pos, ↓if_neg, MC_o c, MC_t c, MC_0 c, MC_2 c, MC_n c, MC_l c, MC_w c, MC_wk c, rIw, rIw_ne, ni_le, ni_lt, ni_eq, ni_add, ni_mul, lni_le, lni_lt, nil_le, nil_lt, lni_eq, nil_eq, lni_add, nil_add, lni_mul, nil_mul, ix_ni, ix_lit, ni_ne1, ni_lt0, ↓reduceIte, Nat.reduceEqDiff, Nat.reduceMul, Nat.reduceAdd, Nat.reduceLeDiff, and_true, true_and, false_and, and_false, if_true, if_false, Nat.not_lt_zero, false_or, or_false, ft9, decide_true, o10, eq_self, b2i_0, b2i_1, b2i_ok, b2i_inj, b2i_t, b2i_f, hasR, q1, q2, Nat.zero_add, ha, x1, reduceCtorEq]
    · have hv : 0 < gI τ 1 i + 1 := by
        rw [eg, show ni g + 1 = ni (g + 1) from ni_add g 1]
        exact (ni_lt (a := 0) (by omega) (by omega)).mpr (by omega)
      obtain ⟨m1, y1, y2, y3⟩ := r_comesIn (a := i) c h (by omega) l6 hv
      obtain ⟨m', x1, x2, x3⟩ := r_forgets (a := i) (MC_fr c y3) y2 (by omega)
      simp only [if_true]
      refine ⟨m', ?_, x2, Fm_trans y3 x3, hP _ (fun j hj => by rw [come_I, if_neg (by omega), if_neg (by omega)]) (by rw [come_I, if_neg (by omega), if_neg (by omega)])⟩
      simp (disch := first | omega | exact MC_ne c | ((repeat (first | exact c | apply MC_w1)); done) | decide) only [gd_t, bd_s, oc_s, oc_n, lt9_e, jn_e, okOwI, okAwI, okTwI, lnwI, okOwL, okAwL, okTwL, lnwL, rRwI, rRwL, sHwI, sHwL, rIwL, rLwI, bit_f, uf_ap, ↓if_pos, ↓if_neg, MC_o c, MC_t c, MC_0 c, MC_2 c, MC_n c, MC_l c, MC_w c, MC_wk c, rIw, rIw_ne, ni_le, ni_lt, ni_eq, ni_add, ni_mul, lni_le, lni_lt, nil_le, nil_lt, lni_eq, nil_eq, lni_add, nil_add, lni_mul, nil_mul, ix_ni, ix_lit, ni_ne1, ni_lt0, ↓reduceIte, Nat.reduceEqDiff, Nat.reduceMul, Nat.reduceAdd, Nat.reduceLeDiff, and_true, true_and, false_and, and_false, if_true, if_false, Nat.not_lt_zero, false_or, or_false, ft9, decide_true, o10, eq_self, b2i_0, b2i_1, b2i_ok, b2i_inj, b2i_t, b2i_f, hasR, q1, r_least hb6 hx0, y1, x1, reduceCtorEq]
  · intro f m τ c h hp
    show L_X12_views_65 K (f + 1) 49 w x jo (ni n) m = _
    rw [L_X12_views_65]
    simp (disch := first | omega | exact MC_ne c | ((repeat (first | exact c | apply MC_w1)); done) | decide) only [gd_t, bd_s, oc_s, oc_n, lt9_e, jn_e, okOwI, okAwI, okTwI, lnwI, okOwL, okAwL, okTwL, lnwL, rRwI, rRwL, sHwI, sHwL, rIwL, rLwI, bit_f, uf_ap, ↓if_pos, ↓if_neg, MC_o c, MC_t c, MC_0 c, MC_2 c, MC_n c, MC_l c, MC_w c, MC_wk c, rIw, rIw_ne, ni_le, ni_lt, ni_eq, ni_add, ni_mul, lni_le, lni_lt, nil_le, nil_lt, lni_eq, nil_eq, lni_add, nil_add, lni_mul, nil_mul, ix_ni, ix_lit, ni_ne1, ni_lt0, ↓reduceIte, Nat.reduceEqDiff, Nat.reduceMul, Nat.reduceAdd, Nat.reduceLeDiff, and_true, true_and, false_and, and_false, if_true, if_false, Nat.not_lt_zero, false_or, or_false, ft9, decide_true, o10, eq_self, b2i_0, b2i_1, b2i_ok, b2i_inj, b2i_t, b2i_f, Nat.le_refl]
/-! what was held -/
theorem tI_h5 {σ : St} {k b j : Nat} {y v : Int32} (h : b ≠ 5) : tI (tI σ 5 k y) b j v = tI (tI σ b j v) 5 k y := by
  refine Prod.ext (funext fun x => funext fun z => ?_) rfl
  show (if x = b ∧ z = j then v else if x = 5 ∧ z = k then y else σ.1 x z) = (if x = 5 ∧ z = k then y else if x = b ∧ z = j then v else σ.1 x z)
  by_cases e : x = b
  · have : ¬ x = 5 := by omega
    simp [this]
  · simp [e]
theorem tL_h5 {σ : St} {k b j : Nat} {y : Int32} {v : Int64} : tL (tI σ 5 k y) b j v = tI (tL σ b j v) 5 k y := rfl
theorem deliver_h5 {σ : St} {k a k' : Nat} {y : Int32} : deliver (tI σ 5 k y) a k' = tI (deliver σ a k') 5 k y := by
  unfold deliver worth
  simp (disch := decide) only [gI_tI, gL_tI, ↓reduceIte, Nat.reduceEqDiff, Nat.reduceMul, Nat.reduceAdd, Nat.reduceLeDiff, and_true, true_and, false_and, and_false, if_true, if_false, Nat.not_lt_zero, false_or, or_false, tI_h5, tL_h5]
  split
  · rfl
  · split <;> rfl
theorem post_h5 {σ : St} {k a : Nat} {y w lim : Int32} : (post (tI σ 5 k y) a w lim).2 = tI (post σ a w lim).2 5 k y := by
  unfold post standing
  simp (disch := decide) only [gI_tI, ↓reduceIte, Nat.reduceEqDiff, Nat.reduceMul, Nat.reduceAdd, Nat.reduceLeDiff, and_true, true_and, false_and, and_false, if_true, if_false, Nat.not_lt_zero, false_or, or_false, tI_h5, deliver_h5]
  repeat' split
  all_goals rfl
theorem r_heldL {K : Nat → Nat → Int32 → Mm → Option (Unit × Mm)} {w n B a e l : Nat} {σ0 : St} (ha : a < 6) (he : e ≤ 8) (hl : l ≤ 30) :
    ∀ (d i fuel : Nat) (m : Mm) (σ : St), i + d = e → d < fuel → MC 49 53 w n (ni l) m → RR (rI m w) (tI σ 5 a 0) → WF n B σ → stands σ a = true → gI σ 0 4 = 0 → (∀ j, j < e → rI m w (72 + 8 * a + j) = gI σ0 6 (a * 8 + j)) → (∀ j, gI σ 6 j = gI σ0 6 j) →
      ∃ m', L_X12_sendsHeld_29 K fuel 49 w (ni a) (ni e) (ni i) m = K 49 w (ni a) m' ∧ RR (rI m' w) (tI (itn (shF (ni l) a) d i σ) 5 a 0) ∧ Fm (fun b => b = w) m m' := by
  intro d
  induction d with
  | zero =>
    intro i fuel m σ hi hf c h wf hs h4 hr h6
    obtain ⟨fuel, rfl⟩ : ∃ g, fuel = g + 1 := ⟨fuel - 1, by omega⟩
    rw [L_X12_sendsHeld_29]
    refine ⟨m, ?_, h, Fm_refl _ _⟩
    rw [if_pos (by rw [ni_le (by omega) (by omega)]; omega)]
  | succ d ih =>
    intro i fuel m σ hi hf c h wf hs h4 hr h6
    obtain ⟨fuel, rfl⟩ : ∃ g, fuel = g + 1 := ⟨fuel - 1, by omega⟩
    rw [L_X12_sendsHeld_29]
    have wf' := WF_held0 (a := a) wf
    obtain ⟨m1, x1, x2, x3, x4⟩ := r_sends (v := gI σ0 6 (a * 8 + i)) c h wf' ha hl
    have h4' : tb (gI (tI σ 5 a 0) 0 4) a = false := by
      show tb (gI σ 0 4) a = false
      rw [h4, tb_0]
    have es : send (tI σ 5 a 0) a (gI σ0 6 (a * 8 + i)) (ni l) = post (tI σ 5 a 0) a (gI σ0 6 (a * 8 + i)) (ni l) := by
      unfold send
      rw [h4', show stands (tI σ 5 a 0) a = true from hs]
      rfl
    rw [es] at x1 x2
    rw [post_h5, ← h6 (a * 8 + i)] at x2
    have wk := x4 h4'
    obtain ⟨m2, y1, y2, y3⟩ := ih (i + 1) fuel m1 (shF (ni l) a i σ) (by omega) (by omega) (MC_fr c x3) x2 (WF_post wf hl hs) (by unfold shF; rw [stands_post]; exact hs) (by unfold shF; rw [post_56 _ _ _ _ 0 4 (by omega)]; exact h4) (fun j hj => by rw [wk _ (by omega) (by omega)]; exact hr j hj) (fun j => by unfold shF; rw [post_56 _ _ _ _ 6 j (by omega)]; exact h6 j)
    refine ⟨m2, ?_, y2, Fm_trans x3 y3⟩
    rw [← y1]
    have hr' := hr i (by omega)
    simp (disch := first | omega | exact MC_ne c | ((repeat (first | exact c | apply MC_w1)); done) | decide) only [gd_t, bd_s, oc_s, oc_n, lt9_e, jn_e, okOwI, okAwI, okTwI, lnwI, okOwL, okAwL, okTwL, lnwL, rRwI, rRwL, sHwI, sHwL, rIwL, rLwI, bit_f, uf_ap, ↓if_pos, ↓if_neg, MC_o c, MC_t c, MC_0 c, MC_2 c, MC_n c, MC_l c, MC_w c, MC_wk c, rIw, rIw_ne, ni_le, ni_lt, ni_eq, ni_add, ni_mul, lni_le, lni_lt, nil_le, nil_lt, lni_eq, nil_eq, lni_add, nil_add, lni_mul, nil_mul, ix_ni, ix_lit, ni_ne1, ni_lt0, ↓reduceIte, Nat.reduceEqDiff, Nat.reduceMul, Nat.reduceAdd, Nat.reduceLeDiff, and_true, true_and, false_and, and_false, if_true, if_false, Nat.not_lt_zero, false_or, or_false, ft9, decide_true, o10, eq_self, b2i_0, b2i_1, b2i_ok, b2i_inj, b2i_t, b2i_f, hr', x1]
theorem r_sendsHeld {w n B l : Nat} {m : Mm} {σ : St} (c : MC 49 53 w n (ni l) m) (h : RR (rI m w) σ) (wf : WF n B σ) (h4 : gI σ 0 4 = 0) (hl : l ≤ 30) : UR w m (F_X12_sendsHeld 49 w m) () (sendHeld σ (ni l)) := by
  unfold F_X12_sendsHeld sendHeld
  have hn := WF_6 wf
  simp only [lt9_e]
  have z := lp_row (L := fun f i m => L_X12_sendsHeld_2 f 49 w i m) (f := shM (ni l)) (N := n) (fin := fun m => some ((), m)) (P := fun i τ => WF n B τ ∧ gI τ 0 4 = 0) ?_ ?_ c h ⟨wf, h4⟩ (by omega)
  · obtain ⟨m', e1, e2, e3, e4⟩ := z
    refine ⟨m', e1, ?_, e3⟩
    rw [itn_tail hn]
    · exact e2
    · intro k h1 h2
      obtain ⟨e, q1, q2, q3⟩ := e4.1.2.1.2.2.2.2.2.2.2.1 k (by omega)
      have e0 : e = 0 := by
        by_cases q : 0 < e
        · have := q3 q
          rw [e4.1.1.2.2.1 k h1] at this
          cases this
        · omega
      subst e0
      have z : ∀ τ : St, gI τ 5 k = ni 0 → shM (ni l) k τ = τ := fun τ q => by
        unfold shM
        rw [shI_itn 8 0 τ q (by omega) (by omega) (by omega)]
        exact tI_same q
      exact z _ q2
  · intro f i m τ hi c h hp
    obtain ⟨p1, p2⟩ := hp
    show ∃ m', L_X12_sendsHeld_2 (f + 1) 49 w (ni i) m = _ ∧ _
    rw [L_X12_sendsHeld_2]
    obtain ⟨e, q1, q2, q3⟩ := p1.2.1.2.2.2.2.2.2.2.1 i (by omega)
    have hW := WF_shM p1 hl (show i < 6 by omega)
    have h0 := RR_held0 h (show i < 6 by omega)
    have f0 : Fm (fun b => b = w) m (wI m w (30 + i) 0) := (by repeat' (first | exact Fm_refl _ _ | apply Fm_wI | apply Fm_wL | rfl))
    have hrow : ∀ j, j < e → rI (wI m w (30 + i) 0) w (72 + 8 * i + j) = gI τ 6 (i * 8 + j) := fun j hj => by
      rw [rIw, uf_ne (by omega)]
      exact RRv h (by omega) (by omega) (by rw [q2, ix_ni (by omega)]; exact hj)
    rw [← rIw] at h0
    have eM : shM (ni l) i τ = tI (itn (shF (ni l) i) e 0 τ) 5 i 0 := by
      unfold shM
      rw [shI_itn 8 0 τ q2 q1 (by omega) (by omega), Nat.sub_zero]
    have hh := RRh h (show i < 6 by omega)
    by_cases qe : e = 0
    · subst qe
      rw [eM] at hW
      refine ⟨wI m w (30 + i) 0, ?_, ?_, f0, ?_⟩
      · have hh' : rI m w (30 + i) = ni 0 := hh.trans q2
        simp (disch := first | omega | exact MC_ne c | ((repeat (first | exact c | apply MC_w1)); done) | decide) only [gd_t, bd_s, oc_s, oc_n, lt9_e, jn_e, okOwI, okAwI, okTwI, lnwI, okOwL, okAwL, okTwL, lnwL, rRwI, rRwL, sHwI, sHwL, rIwL, rLwI, bit_f, uf_ap, ↓if_pos, ↓if_neg, MC_o c, MC_t c, MC_0 c, MC_2 c, MC_n c, MC_l c, MC_w c, MC_wk c, rIw, rIw_ne, ni_le, ni_lt, ni_eq, ni_add, ni_mul, lni_le, lni_lt, nil_le, nil_lt, lni_eq, nil_eq, lni_add, nil_add, lni_mul, nil_mul, ix_ni, ix_lit, ni_ne1, ni_lt0, ↓reduceIte, Nat.reduceEqDiff, Nat.reduceMul, Nat.reduceAdd, Nat.reduceLeDiff, and_true, true_and, false_and, and_false, if_true, if_false, Nat.not_lt_zero, false_or, or_false, ft9, decide_true, o10, eq_self, b2i_0, b2i_1, b2i_ok, b2i_inj, b2i_t, b2i_f, hh']
        rw [show NF = 99999 + 1 from rfl, L_X12_sendsHeld_29, if_pos (by decide)]
        simp only [lt9_e, nil_add]
      · rw [eM]
        exact h0
      · rw [eM]
        exact ⟨hW.1, hW.2.trans p2⟩
    · have hi2 := q3 (by omega)
      have hs : stands τ i = true := by
        unfold stands standing
        rw [tb_and, p1.1.2.2.2.2.2.2.2.1 i hi2, hi2]
        rfl
      obtain ⟨m', y1, y2, y3⟩ := r_heldL (K := fun v0 v1 v2 m => L_X12_sendsHeld_2 f v0 v1 (v2 + 1) m) (σ0 := τ) (show i < 6 by omega) q1 hl e 0 NF (wI m w (30 + i) 0) τ (by omega) (by unfold NF; omega) (MC_w1 c) h0 p1 hs p2 hrow (fun _ => rfl)
      rw [ni_0] at y1
      refine ⟨m', ?_, ?_, Fm_trans f0 y3, ?_⟩
      · have hh' : rI m w (30 + i) = ni e := hh.trans q2
        simp (disch := first | omega | exact MC_ne c | ((repeat (first | exact c | apply MC_w1)); done) | decide) only [gd_t, bd_s, oc_s, oc_n, lt9_e, jn_e, okOwI, okAwI, okTwI, lnwI, okOwL, okAwL, okTwL, lnwL, rRwI, rRwL, sHwI, sHwL, rIwL, rLwI, bit_f, uf_ap, ↓if_pos, ↓if_neg, MC_o c, MC_t c, MC_0 c, MC_2 c, MC_n c, MC_l c, MC_w c, MC_wk c, rIw, rIw_ne, ni_le, ni_lt, ni_eq, ni_add, ni_mul, lni_le, lni_lt, nil_le, nil_lt, lni_eq, nil_eq, lni_add, nil_add, lni_mul, nil_mul, ix_ni, ix_lit, ni_ne1, ni_lt0, ↓reduceIte, Nat.reduceEqDiff, Nat.reduceMul, Nat.reduceAdd, Nat.reduceLeDiff, and_true, true_and, false_and, and_false, if_true, if_false, Nat.not_lt_zero, false_or, or_false, ft9, decide_true, o10, eq_self, b2i_0, b2i_1, b2i_ok, b2i_inj, b2i_t, b2i_f, hh', y1]
      · rw [eM]
        exact y2
      · exact ⟨hW.1, hW.2.trans p2⟩
  · intro f m τ c h hp
    show L_X12_sendsHeld_2 (f + 1) 49 w (ni n) m = _
    rw [L_X12_sendsHeld_2]
    simp (disch := first | omega | exact MC_ne c | ((repeat (first | exact c | apply MC_w1)); done) | decide) only [gd_t, bd_s, oc_s, oc_n, lt9_e, jn_e, okOwI, okAwI, okTwI, lnwI, okOwL, okAwL, okTwL, lnwL, rRwI, rRwL, sHwI, sHwL, rIwL, rLwI, bit_f, uf_ap, ↓if_pos, ↓if_neg, MC_o c, MC_t c, MC_0 c, MC_2 c, MC_n c, MC_l c, MC_w c, MC_wk c, rIw, rIw_ne, ni_le, ni_lt, ni_eq, ni_add, ni_mul, lni_le, lni_lt, nil_le, nil_lt, lni_eq, nil_eq, lni_add, nil_add, lni_mul, nil_mul, ix_ni, ix_lit, ni_ne1, ni_lt0, ↓reduceIte, Nat.reduceEqDiff, Nat.reduceMul, Nat.reduceAdd, Nat.reduceLeDiff, and_true, true_and, false_and, and_false, if_true, if_false, Nat.not_lt_zero, false_or, or_false, ft9, decide_true, o10, eq_self, b2i_0, b2i_1, b2i_ok, b2i_inj, b2i_t, b2i_f, Nat.le_refl]

def rvK (v0 v1 : Nat) (v3 v4 : Int32) (m : Mm) : Option (Int32 × Mm) :=
            gd (okA m 100 v1 (181 : Int32)) (
            gd (okA m 100 v1 (181 : Int32)) (lt9 (wI m v1 (ix (181 : Int32)) ((rI m v1 (ix (181 : Int32))) + (1 : Int32))) fun m28 =>
            gd (okA m28 100 v1 (182 : Int32)) (lt9 (wI m28 v1 (ix (182 : Int32)) (v3 ||| v4)) fun m29 =>
            gd (okA m29 100 v1 (183 : Int32)) (lt9 (wI m29 v1 (ix (183 : Int32)) (v3 ||| v4)) fun m30 =>
            gd (okA m30 100 v1 (186 : Int32)) (
            gd (okA m30 100 v1 (186 : Int32)) (lt9 (wI m30 v1 (ix (186 : Int32)) ((rI m30 v1 (ix (186 : Int32))) &&& (v4 ^^^ (-1 : Int32)))) fun m31 =>
            gd (okA m31 100 v1 (185 : Int32)) (
            gd (okA m31 100 v1 (185 : Int32)) (lt9 (wI m31 v1 (ix (185 : Int32)) ((rI m31 v1 (ix (185 : Int32))) &&& (v3 ^^^ (-1 : Int32)))) fun m32 =>
            gd (okA m32 100 v1 (187 : Int32)) (lt9 (wI m32 v1 (ix (187 : Int32)) (0 : Int32)) fun m33 =>
            gd (okO m33 v0 12) (bd (F_X12_sendsHeld v0 v1 m33) fun r34 m35 =>
            some ((1 : Int32), m35)))))))))))
theorem r_road {n w B l : Nat} {σ : St} {m : Mm} {x jo : Int32} (k : MC 49 53 w n (ni l) m) (wf : WF n B σ) (h : RR (rI m w) σ) (hl : l ≤ 30) (hB : B + 1 < 1000000) (hxs : sbs x (standing σ)) (hx0 : x ≠ 0) (hjs : sbs jo (gI σ 0 5)) :
    ∃ m', (gd (okO m 49 12) (bd (F_X12_flushes 49 w x m) fun _ m9 => lt9 (0 : Int32) fun x10 => L_X12_views_65 rvK NF 49 w x jo x10 m9)) = some ((1 : Int32), m') ∧ RR (rI m' w) (sendHeld (changeView σ x jo) (ni l)) ∧ Fm (fun b => b = w) m m' := by
  have hxi : sbs x (gI σ 0 2) := fun k hk => (st_in (hxs k hk)).1
  have hlg : ∀ a, a < 6 → tb x a = true → Lg σ a := fun a ha e => WF_lg wf ha (hxs a e)
  have hbx : bel n x := fun k hk => by
    cases e : tb x k
    · rfl
    · have := st_n wf (hxs k e)
      omega
  have hb6 : bel 6 x := bel_mono (WF_6 wf) hbx
  have hcv := WF_cv wf hB hxs hx0 hjs
  obtain ⟨w1, w2, w3⟩ := WF_flush wf (fun a ha e => ⟨st_n wf (hxs a e), hlg a ha e⟩)
  have hve := view_eq wf hxi hx0 hjs hlg
  obtain ⟨m3, x1, x2, x3⟩ := r_flushes (x := x) k h wf hbx hlg
  have k3 := MC_fr k x3
  obtain ⟨m4, y1, y2, y3⟩ := r_viewL (K := rvK) (jo := jo) k3 x2 w1 hb6 hx0 (fun a ha e => w3 a (hlg a ha e))
  have k4 := MC_fr k3 y3
  unfold rview at hve
  dsimp only at hve
  generalize itn (rvF x jo (lst x)) n 0 (flush σ x) = τ at y2 hve
  have h5 := RR_msg0 (RR_f4 (v := gI τ 0 4 &&& (x ^^^ (-1 : Int32))) (RR_f5 (v := gI τ 0 5 &&& (jo ^^^ (-1 : Int32))) (RR_f2 (v := x ||| jo) (RR_f1 (v := x ||| jo) (RR_f0 (v := gI τ 0 0 + 1) y2)))))
  rw [← rIw, ← rIw, ← rIw, ← rIw, ← rIw, ← rIw, hve] at h5
  have f5 : Fm (fun b => b = w) m4 (wI (wI (wI (wI (wI (wI m4 w 181 (gI τ 0 0 + 1)) w 182 (x ||| jo)) w 183 (x ||| jo)) w 186 (gI τ 0 5 &&& (jo ^^^ (-1 : Int32)))) w 185 (gI τ 0 4 &&& (x ^^^ (-1 : Int32)))) w 187 0) := (by repeat' (first | exact Fm_refl _ _ | apply Fm_wI | apply Fm_wL | rfl))
  obtain ⟨m5, z1, z2, z3⟩ := r_sendsHeld (MC_fr k4 f5) h5 hcv.1 hcv.2 hl
  refine ⟨m5, ?_, z2, Fm_trans (Fm_trans (Fm_trans x3 y3) f5) z3⟩
  simp only [MC_o k, gd_t, x1, bd_s, lt9_e]
  rw [y1]
  unfold rvK
  have c := k4
  simp (disch := first | omega | exact MC_ne c | ((repeat (first | exact c | apply MC_w1)); done) | decide) only [gd_t, bd_s, oc_s, oc_n, lt9_e, jn_e, okOwI, okAwI, okTwI, lnwI, okOwL, okAwL, okTwL, lnwL, rRwI, rRwL, sHwI, sHwL, rIwL, rLwI, bit_f, uf_ap, ↓if_pos, ↓if_neg, MC_o c, MC_t c, MC_0 c, MC_2 c, MC_n c, MC_l c, MC_w c, MC_wk c, rIw, rIw_ne, ni_le, ni_lt, ni_eq, ni_add, ni_mul, lni_le, lni_lt, nil_le, nil_lt, lni_eq, nil_eq, lni_add, nil_add, lni_mul, nil_mul, ix_ni, ix_lit, ni_ne1, ni_lt0, ↓reduceIte, Nat.reduceEqDiff, Nat.reduceMul, Nat.reduceAdd, Nat.reduceLeDiff, and_true, true_and, false_and, and_false, if_true, if_false, Nat.not_lt_zero, false_or, or_false, ft9, decide_true, o10, eq_self, b2i_0, b2i_1, b2i_ok, b2i_inj, b2i_t, b2i_f, RR181 y2, RR186 y2, RR185 y2, z1]
theorem r_views {n len w B l : Nat} {cs : Nat → Nat} {σ : St} {m : Mm} (hw : w = 473 ∨ w = 474) (wf : WF n B σ) (c : RC n (ni l) len cs m) (h : RR (rI m w) σ) (hl : l ≤ 30) (hB : B + 1 < 1000000) :
    ∃ m', F_X12_views 49 w m = some (b2i (viewS cs len n (ni l) σ).1, m') ∧ RR (rI m' w) (viewS cs len n (ni l) σ).2 ∧ Fm (AW w) m m' := by
  obtain ⟨m1, e1, f1⟩ := r_primOf hw wf c h
  have c1 := RC_q c f1
  have h1 : RR (rI m1 w) σ := by rw [AR_w hw f1]; exact h
  obtain ⟨m2, e2, f2⟩ := r_surv hw wf c1 h1
  have c2 := RC_q c1 f2
  have h2 : RR (rI m2 w) σ := by rw [AR_w hw f2]; exact h1
  have f12 : Fm (AW w) m m2 := AR_AW (Fm_trans f1 f2)
  have k := RC_MC c hw
  have k1 := RC_MC c1 hw
  have k2 := RC_MC c2 hw
  have ok0 := MC_o k
  have ok1 := MC_o k1
  unfold F_X12_views viewS
  by_cases q : partN cs len n σ = -1
  · rw [if_pos q]
    refine ⟨m2, ?_, h2, f12⟩
    simp only [ok0, ok1, gd_t, e1, e2, bd_s, lt9_e, q, if_true, b2i_f]
  · have es : survN cs len n σ = partN cs len n σ &&& standing σ := by unfold survN; rw [if_neg q]
    rw [if_neg q]
    rw [es] at e2
    by_cases q2 : (partN cs len n σ &&& standing σ) &&& (gI σ 0 4 ^^^ (-1 : Int32)) = 0
    · rw [if_pos q2]
      obtain ⟨s1, s2, s3⟩ := prim_sv wf (bel_st wf) q
      have s1' : partN cs len n σ &&& standing σ ≠ 0 := s1
      have hxs : sbs (partN cs len n σ &&& standing σ) (standing σ) := fun k hk => by
        rw [tb_and] at hk
        simp at hk
        exact hk.2
      have hjs : sbs (partN cs len n σ &&& gI σ 0 5) (gI σ 0 5) := fun k hk => by
        rw [tb_and] at hk
        simp at hk
        exact hk.2
      have hbx : bel n (partN cs len n σ &&& standing σ) := bel_and2 (bel_st wf)
      have hb6 : bel 6 (partN cs len n σ &&& standing σ) := bel_mono (WF_6 wf) hbx
      have hlg : ∀ a, a < 6 → tb (partN cs len n σ &&& standing σ) a = true → Lg σ a := fun a ha e => WF_lg wf ha (hxs a e)
      have hflag : (partN cs len n σ &&& standing σ = gI σ 0 1 ∧ partN cs len n σ &&& gI σ 0 5 = 0) ↔ (partN cs len n σ = gI σ 0 1 ∧ partN cs len n σ &&& gI σ 0 5 = 0) := by
        constructor
        · rintro ⟨p1, p2⟩
          refine ⟨?_, p2⟩
          rw [← p1]
          apply tb_ext
          intro i _
          rw [tb_and]
          cases e : tb (partN cs len n σ) i
          · rfl
          · rcases s3 i e with z | z
            · rw [z]
              rfl
            · have := (eq0.mp p2) i
              rw [tb_and, e, z] at this
              cases this
        · rintro ⟨p1, p2⟩
          refine ⟨?_, p2⟩
          rw [← p1]
          apply tb_ext
          intro i _
          rw [tb_and]
          cases e : tb (partN cs len n σ) i
          · rfl
          · rcases s3 i e with z | z
            · rw [z]
              rfl
            · have := (eq0.mp p2) i
              rw [tb_and, e, z] at this
              cases this
      obtain ⟨m3, r1, r2, r3'⟩ := r_road k2 wf h2 hl hB hxs s1' hjs
      have r3 : Fm (AW w) m m3 := Fm_trans f12 (eq_AW r3')
      by_cases q3 : partN cs len n σ &&& gI σ 0 5 = 0
      · by_cases q4 : partN cs len n σ = gI σ 0 1
        · rw [if_pos q4, if_pos q3]
          have q5 := eq_true (hflag.mpr ⟨q4, q3⟩).1
          refine ⟨m2, ?_, h2, f12⟩
          have c := k2
          simp (disch := first | omega | exact MC_ne c | ((repeat (first | exact c | apply MC_w1)); done) | decide) only [gd_t, bd_s, oc_s, oc_n, lt9_e, jn_e, okOwI, okAwI, okTwI, lnwI, okOwL, okAwL, okTwL, lnwL, rRwI, rRwL, sHwI, sHwL, rIwL, rLwI, bit_f, uf_ap, ↓if_pos, ↓if_neg, MC_o c, MC_t c, MC_0 c, MC_2 c, MC_n c, MC_l c, MC_w c, MC_wk c, rIw, rIw_ne, ni_le, ni_lt, ni_eq, ni_add, ni_mul, lni_le, lni_lt, nil_le, nil_lt, lni_eq, nil_eq, lni_add, nil_add, lni_mul, nil_mul, ix_ni, ix_lit, ni_ne1, ni_lt0, ↓reduceIte, Nat.reduceEqDiff, Nat.reduceMul, Nat.reduceAdd, Nat.reduceLeDiff, and_true, true_and, false_and, and_false, if_true, if_false, Nat.not_lt_zero, false_or, or_false, ft9, decide_true, o10, eq_self, b2i_0, b2i_1, b2i_ok, b2i_inj, b2i_t, b2i_f, ok0, ok1, e1, e2, q, RR185 h2, RR186 h2, RR182 h2, q2, q3, q5]
        · rw [if_neg q4]
          have q5 : ¬ (partN cs len n σ &&& standing σ = gI σ 0 1) := fun z => q4 (hflag.mp ⟨z, q3⟩).1
          refine ⟨m3, ?_, r2, r3⟩
          rw [show b2i (true, newView cs len n (ni l) σ).1 = 1 from rfl]
          have c := k2
          simp (disch := first | omega | exact MC_ne c | ((repeat (first | exact c | apply MC_w1)); done) | decide) only [okAwI, ix_lit, gd_t, bd_s, lt9_e, jn_e, MC_wk c, ok0, ok1, e1, e2, q, RR185 h2, RR186 h2, RR182 h2, q2, q5, if_true, if_false]
          simp only [lt9_e] at r1
          exact r1
      · refine ⟨m3, ?_, ?_, r3⟩
        · have eb : (if partN cs len n σ = gI σ 0 1 then (if partN cs len n σ &&& gI σ 0 5 = 0 then (false, σ) else (true, newView cs len n (ni l) σ)) else (true, newView cs len n (ni l) σ)) = (true, newView cs len n (ni l) σ) := by
            rw [if_neg q3]
            split <;> rfl
          rw [eb, show b2i (true, newView cs len n (ni l) σ).1 = 1 from rfl]
          simp only [lt9_e] at r1
          have c := k2
          by_cases q5' : partN cs len n σ &&& standing σ = gI σ 0 1
          · have q5 := eq_true q5'
            simp (disch := first | omega | exact MC_ne c | ((repeat (first | exact c | apply MC_w1)); done) | decide) only [okAwI, ix_lit, gd_t, bd_s, lt9_e, jn_e, MC_wk c, ok0, ok1, e1, e2, q, RR185 h2, RR186 h2, RR182 h2, q2, q3, q5, if_true, if_false]
            exact r1
          · have q5 := eq_false q5'
            simp (disch := first | omega | exact MC_ne c | ((repeat (first | exact c | apply MC_w1)); done) | decide) only [okAwI, ix_lit, gd_t, bd_s, lt9_e, jn_e, MC_wk c, ok0, ok1, e1, e2, q, RR185 h2, RR186 h2, RR182 h2, q2, q3, q5, if_true, if_false]
            exact r1
        · rw [if_neg q3]
          split <;> exact r2
    · rw [if_neg q2]
      refine ⟨m2, ?_, h2, f12⟩
      have c := k2
      simp (disch := first | omega | exact MC_ne c | ((repeat (first | exact c | apply MC_w1)); done) | decide) only [gd_t, bd_s, oc_s, oc_n, lt9_e, jn_e, okOwI, okAwI, okTwI, lnwI, okOwL, okAwL, okTwL, lnwL, rRwI, rRwL, sHwI, sHwL, rIwL, rLwI, bit_f, uf_ap, ↓if_pos, ↓if_neg, MC_o c, MC_t c, MC_0 c, MC_2 c, MC_n c, MC_l c, MC_w c, MC_wk c, rIw, rIw_ne, ni_le, ni_lt, ni_eq, ni_add, ni_mul, lni_le, lni_lt, nil_le, nil_lt, lni_eq, nil_eq, lni_add, nil_add, lni_mul, nil_mul, ix_ni, ix_lit, ni_ne1, ni_lt0, ↓reduceIte, Nat.reduceEqDiff, Nat.reduceMul, Nat.reduceAdd, Nat.reduceLeDiff, and_true, true_and, false_and, and_false, if_true, if_false, Nat.not_lt_zero, false_or, or_false, ft9, decide_true, o10, eq_self, b2i_0, b2i_1, b2i_ok, b2i_inj, b2i_t, b2i_f, ok0, ok1, e1, e2, q, RR185 h2, q2]
