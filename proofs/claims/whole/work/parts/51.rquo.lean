/-! L2: the reference's weights and primary part. -/
def RC (n : Nat) (lim : Int32) (len : Nat) (cs : Nat → Nat) (m : Mm) : Prop := G m ∧ rI m 53 0 = ni n ∧ rI m 53 2 = lim ∧ n ≤ 6 ∧ RLc 49 54 len cs m ∧ WFl cs len
def AR : Nat → Prop := fun b => b = 390 ∨ b = 391
/-- the reference's row and what it reckons with -/
def AW (w : Nat) : Nat → Prop := fun b => b = w ∨ b = 390 ∨ b = 391
theorem RC_fr {n len : Nat} {lim : Int32} {cs : Nat → Nat} {m m' : Mm} {A : Nat → Prop} (c : RC n lim len cs m) (f : Fm A m m') (h1 : ¬ A 53) (h2 : ¬ A 49) (h3 : ∀ i, i < 160 → ¬ A (54 + 1 + i)) : RC n lim len cs m' := by
  obtain ⟨g, c1, c2, c3, c4, c5⟩ := c
  have := c5.2.2.2
  exact ⟨G_fr f g, by rw [(f.1 53 h1).1]; exact c1, by rw [(f.1 53 h1).1]; exact c2, c3, RLc_fr c4 f h2 (fun i hi => h3 i (by omega)), c5⟩
theorem RC_w {n len w : Nat} {lim : Int32} {cs : Nat → Nat} {m m' : Mm} (c : RC n lim len cs m) (hw : w = 473 ∨ w = 474) (f : Fm (AW w) m m') : RC n lim len cs m' := RC_fr c f (by unfold AW; omega) (by unfold AW; omega) (fun i hi => by unfold AW; omega)
theorem RC_q {n len : Nat} {lim : Int32} {cs : Nat → Nat} {m m' : Mm} (c : RC n lim len cs m) (f : Fm AR m m') : RC n lim len cs m' := RC_fr c f (by unfold AR; omega) (by unfold AR; omega) (fun i hi => by unfold AR; omega)
theorem RC_MC {n len w : Nat} {lim : Int32} {cs : Nat → Nat} {m : Mm} (c : RC n lim len cs m) (hw : w = 473 ∨ w = 474) : MC 49 53 w n lim m := G_MC c.1 hw c.2.1 c.2.2.1 c.2.2.2.1
theorem AR_w {m m' : Mm} {w : Nat} (hw : w = 473 ∨ w = 474) (f : Fm AR m m') : rI m' w = rI m w := (f.1 w (by unfold AR; omega)).1
theorem AR_AW {m m' : Mm} {w : Nat} (f : Fm AR m m') : Fm (AW w) m m' := Fm_mono (fun _ h => .inr h) f
theorem eq_AW {m m' : Mm} {w : Nat} (f : Fm (fun b => b = w) m m') : Fm (AW w) m m' := Fm_mono (fun _ h => .inl h) f
theorem r_weight {n len w i B : Nat} {lim : Int32} {cs : Nat → Nat} {m : Mm} {σ : St} (hw : w = 473 ∨ w = 474) (c : RC n lim len cs m) (h : RR (rI m w) σ) (wf : WF n B σ) (hi : i < 6) :
    ∃ m', F_X12_weight 49 w (ni i) m = some (wt cs len σ i, m') ∧ Fm AR m m' := by
  have k := RC_MC c hw
  obtain ⟨g, c1, c2, c3, c4, c5⟩ := id c
  obtain ⟨m', e, f⟩ := r_weightBy (e := (ni i, gI σ 1 i, gI σ 0 0, bcI (gI σ 0 1))) c5 (G_RLs g) c4
  refine ⟨m', ?_, f⟩
  unfold F_X12_weight
  have hv : bel 30 (gI σ 0 1) := bel_mono (show n ≤ 30 by omega) wf.1.2.1
  have ha : rI m w i = gI σ 1 i := RRa h hi
  have ha' : rI m w (0 + i) = gI σ 1 i := by rw [Nat.zero_add]; exact ha
  dsimp only at e
  have c := k
  simp (disch := first | omega | exact MC_ne c | ((repeat (first | exact c | apply MC_w1)); done) | decide) only [gd_t, bd_s, oc_s, oc_n, lt9_e, jn_e, okOwI, okAwI, okTwI, lnwI, okOwL, okAwL, okTwL, lnwL, rRwI, rRwL, sHwI, sHwL, rIwL, rLwI, bit_f, uf_ap, ↓if_pos, ↓if_neg, MC_o c, MC_t c, MC_0 c, MC_2 c, MC_n c, MC_l c, MC_w c, MC_wk c, rIw, rIw_ne, ni_le, ni_lt, ni_eq, ni_add, ni_mul, lni_le, lni_lt, nil_le, nil_lt, lni_eq, nil_eq, lni_add, nil_add, lni_mul, nil_mul, ix_ni, ix_lit, ni_ne1, ni_lt0, ↓reduceIte, Nat.reduceEqDiff, Nat.reduceMul, Nat.reduceAdd, Nat.reduceLeDiff, and_true, true_and, false_and, and_false, if_true, if_false, Nat.not_lt_zero, false_or, or_false, ft9, decide_true, o10, eq_self, b2i_0, b2i_1, b2i_ok, b2i_inj, b2i_t, b2i_f, Nat.zero_add, ha, ha', RR181 h, RR182 h, r_onesB hv, e]
  rfl
theorem r_weighL {n len w B : Nat} {lim x : Int32} {cs : Nat → Nat} {σ : St} (hw : w = 473 ∨ w = 474) (wf : WF n B σ) :
    ∀ (d i fuel : Nat) (m : Mm), i + d = n → d < fuel → RC n lim len cs m → RR (rI m w) σ →
      ∃ m', L_X12_weigh_5 fuel 49 w x (sumW (wt cs len σ) x i) (ni i) m = some (sumW (wt cs len σ) x n, m') ∧ Fm AR m m' := by
  have hn := WF_6 wf
  intro d
  induction d with
  | zero =>
    intro i fuel m hi hf c h
    obtain ⟨fuel, rfl⟩ : ∃ g, fuel = g + 1 := ⟨fuel - 1, by omega⟩
    have : i = n := by omega
    subst this
    rw [L_X12_weigh_5]
    have c := RC_MC c hw
    refine ⟨m, ?_, Fm_refl _ _⟩
    simp (disch := first | omega | exact MC_ne c | ((repeat (first | exact c | apply MC_w1)); done) | decide) only [gd_t, bd_s, oc_s, oc_n, lt9_e, jn_e, okOwI, okAwI, okTwI, lnwI, okOwL, okAwL, okTwL, lnwL, rRwI, rRwL, sHwI, sHwL, rIwL, rLwI, bit_f, uf_ap, ↓if_pos, ↓if_neg, MC_o c, MC_t c, MC_0 c, MC_2 c, MC_n c, MC_l c, MC_w c, MC_wk c, rIw, rIw_ne, ni_le, ni_lt, ni_eq, ni_add, ni_mul, lni_le, lni_lt, nil_le, nil_lt, lni_eq, nil_eq, lni_add, nil_add, lni_mul, nil_mul, ix_ni, ix_lit, ni_ne1, ni_lt0, ↓reduceIte, Nat.reduceEqDiff, Nat.reduceMul, Nat.reduceAdd, Nat.reduceLeDiff, and_true, true_and, false_and, and_false, if_true, if_false, Nat.not_lt_zero, false_or, or_false, ft9, decide_true, o10, eq_self, b2i_0, b2i_1, b2i_ok, b2i_inj, b2i_t, b2i_f, Nat.le_refl]
  | succ d ih =>
    intro i fuel m hi hf c h
    obtain ⟨fuel, rfl⟩ : ∃ g, fuel = g + 1 := ⟨fuel - 1, by omega⟩
    rw [L_X12_weigh_5]
    have k := RC_MC c hw
    have hS : sumW (wt cs len σ) x (i + 1) = sumW (wt cs len σ) x i + (if tb x i then wt cs len σ i else 0) := by
      unfold sumW
      rw [itn_s, Nat.zero_add]
      rfl
    cases e : tb x i
    · obtain ⟨m', z1, z2⟩ := ih (i + 1) fuel m (by omega) (by omega) c h
      refine ⟨m', ?_, z2⟩
      rw [← z1, hS, e]
      have c := k
      simp (disch := first | omega | exact MC_ne c | ((repeat (first | exact c | apply MC_w1)); done) | decide) only [gd_t, bd_s, oc_s, oc_n, lt9_e, jn_e, okOwI, okAwI, okTwI, lnwI, okOwL, okAwL, okTwL, lnwL, rRwI, rRwL, sHwI, sHwL, rIwL, rLwI, bit_f, uf_ap, ↓if_pos, ↓if_neg, MC_o c, MC_t c, MC_0 c, MC_2 c, MC_n c, MC_l c, MC_w c, MC_wk c, rIw, rIw_ne, ni_le, ni_lt, ni_eq, ni_add, ni_mul, lni_le, lni_lt, nil_le, nil_lt, lni_eq, nil_eq, lni_add, nil_add, lni_mul, nil_mul, ix_ni, ix_lit, ni_ne1, ni_lt0, ↓reduceIte, Nat.reduceEqDiff, Nat.reduceMul, Nat.reduceAdd, Nat.reduceLeDiff, and_true, true_and, false_and, and_false, if_true, if_false, Nat.not_lt_zero, false_or, or_false, ft9, decide_true, o10, eq_self, b2i_0, b2i_1, b2i_ok, b2i_inj, b2i_t, b2i_f, hasR, e, reduceCtorEq]
    · obtain ⟨m1, y1, y2⟩ := r_weight (i := i) hw c h wf (by omega)
      obtain ⟨m', z1, z2⟩ := ih (i + 1) fuel m1 (by omega) (by omega) (RC_q c y2) (by rw [AR_w hw y2]; exact h)
      refine ⟨m', ?_, Fm_trans y2 z2⟩
      rw [← z1, hS, e]
      have c := k
      simp (disch := first | omega | exact MC_ne c | ((repeat (first | exact c | apply MC_w1)); done) | decide) only [gd_t, bd_s, oc_s, oc_n, lt9_e, jn_e, okOwI, okAwI, okTwI, lnwI, okOwL, okAwL, okTwL, lnwL, rRwI, rRwL, sHwI, sHwL, rIwL, rLwI, bit_f, uf_ap, ↓if_pos, ↓if_neg, MC_o c, MC_t c, MC_0 c, MC_2 c, MC_n c, MC_l c, MC_w c, MC_wk c, rIw, rIw_ne, ni_le, ni_lt, ni_eq, ni_add, ni_mul, lni_le, lni_lt, nil_le, nil_lt, lni_eq, nil_eq, lni_add, nil_add, lni_mul, nil_mul, ix_ni, ix_lit, ni_ne1, ni_lt0, ↓reduceIte, Nat.reduceEqDiff, Nat.reduceMul, Nat.reduceAdd, Nat.reduceLeDiff, and_true, true_and, false_and, and_false, if_true, if_false, Nat.not_lt_zero, false_or, or_false, ft9, decide_true, o10, eq_self, b2i_0, b2i_1, b2i_ok, b2i_inj, b2i_t, b2i_f, hasR, e, y1, reduceCtorEq]
theorem r_weigh {n len w B : Nat} {lim x : Int32} {cs : Nat → Nat} {σ : St} {m : Mm} (hw : w = 473 ∨ w = 474) (wf : WF n B σ) (c : RC n lim len cs m) (h : RR (rI m w) σ) :
    ∃ m', F_X12_weigh 49 w x m = some (sumW (wt cs len σ) x n, m') ∧ Fm AR m m' := by
  unfold F_X12_weigh
  simp only [lt9_e]
  exact r_weighL hw wf n 0 NF m (by omega) (by have := WF_6 wf; unfold NF; omega) c h
theorem r_primBy {n len w B : Nat} {lim p st : Int32} {cs : Nat → Nat} {σ : St} {m : Mm} (hw : w = 473 ∨ w = 474) (wf : WF n B σ) (c : RC n lim len cs m) (h : RR (rI m w) σ) (hb : bel n st) :
    ∃ m', F_X12_primaryBy 49 w p st m = some (prim cs len n σ p st, m') ∧ Fm AR m m' := by
  unfold F_X12_primaryBy prim partP
  have hn := WF_6 wf
  have hall : ∀ i, i < n → tb (allB n) i = true := fun i hi => by rw [allB_tb (by omega)]; simp [hi]
  have hall' : ∀ i, n ≤ i → tb (allB n) i = false := fun i hi => by rw [allB_tb (by omega)]; simp; omega
  obtain ⟨m1, y1, y2⟩ := r_weigh (x := gI σ 0 1) hw wf c h
  have c1 := RC_q c y2
  have h1 : RR (rI m1 w) σ := by rw [AR_w hw y2]; exact h
  obtain ⟨m2, x1, x2⟩ := r_weigh (x := (p &&& allB n) &&& st) hw wf c1 h1
  have c2 := RC_q c1 x2
  have h2 : RR (rI m2 w) σ := by rw [AR_w hw x2]; exact h1
  obtain ⟨m3, w1, w2⟩ := r_weigh (x := (allB n &&& (p ^^^ (-1 : Int32))) &&& st) hw wf c2 h2
  have c3 := RC_q c2 w2
  have h3 : RR (rI m3 w) σ := by rw [AR_w hw w2]; exact h2
  have e1 : sumW (wt cs len σ) ((p &&& allB n) &&& st) n = sumW (wt cs len σ) (st &&& p) n := sumW_cg (fun i hi => ⟨rfl, by rw [tb_and, tb_and, tb_and, hall i hi]; cases tb p i <;> cases tb st i <;> rfl⟩)
  have e2 : sumW (wt cs len σ) ((allB n &&& (p ^^^ (-1 : Int32))) &&& st) n = sumW (wt cs len σ) (st &&& (p ^^^ (-1 : Int32))) n := sumW_cg (fun i hi => ⟨rfl, by rw [tb_and, tb_and, tb_and, hall i hi, Bool.true_and, Bool.and_comm]⟩)
  rw [e1] at x1
  rw [e2] at w1
  have huw : bel n (st ||| (gI σ 0 3 &&& gI σ 0 5)) := bel_or hb (bel_and wf.1.2.2.2.1)
  have e3 : (p &&& allB n) &&& (st ||| (gI σ 0 3 &&& gI σ 0 5)) = p &&& (st ||| (gI σ 0 3 &&& gI σ 0 5)) := by
    apply tb_ext
    intro i _
    rw [tb_and, tb_and, tb_and]
    by_cases e : i < n
    · rw [hall i e, Bool.and_true]
    · rw [huw i (by omega), Bool.and_false, Bool.and_false]
  have e4 : (allB n &&& (p ^^^ (-1 : Int32))) &&& (st ||| (gI σ 0 3 &&& gI σ 0 5)) = (p ^^^ (-1 : Int32)) &&& (st ||| (gI σ 0 3 &&& gI σ 0 5)) := by
    apply tb_ext
    intro i _
    rw [tb_and, tb_and, tb_and]
    by_cases e : i < n
    · rw [hall i e, Bool.true_and]
    · rw [huw i (by omega), Bool.and_false, Bool.and_false]
  have k := RC_MC c hw
  have k1 := RC_MC c1 hw
  have k2 := RC_MC c2 hw
  have k3 := RC_MC c3 hw
  have u1 : F_X12_primaryBy 49 w p st m = L_X12_primaryBy_27 (fun v1 v3 v7 m => gd (okA m 100 v1 (184 : Int32)) (gd (okA m 100 v1 (186 : Int32)) (some ((v7 &&& (v3 ||| ((rI m v1 (ix (184 : Int32))) &&& (rI m v1 (ix (186 : Int32)))))), m)))) (99998 + 1 + 1) 49 w p st (allB n) (sumW (wt cs len σ) (gI σ 0 1) n) 0 m1 := by
    unfold F_X12_primaryBy
    have c := k
    simp (disch := first | omega | exact MC_ne c | ((repeat (first | exact c | apply MC_w1)); done) | decide) only [gd_t, bd_s, oc_s, oc_n, lt9_e, jn_e, okOwI, okAwI, okTwI, lnwI, okOwL, okAwL, okTwL, lnwL, rRwI, rRwL, sHwI, sHwL, rIwL, rLwI, bit_f, uf_ap, ↓if_pos, ↓if_neg, MC_o c, MC_t c, MC_0 c, MC_2 c, MC_n c, MC_l c, MC_w c, MC_wk c, rIw, rIw_ne, ni_le, ni_lt, ni_eq, ni_add, ni_mul, lni_le, lni_lt, nil_le, nil_lt, lni_eq, nil_eq, lni_add, nil_add, lni_mul, nil_mul, ix_ni, ix_lit, ni_ne1, ni_lt0, ↓reduceIte, Nat.reduceEqDiff, Nat.reduceMul, Nat.reduceAdd, Nat.reduceLeDiff, and_true, true_and, false_and, and_false, if_true, if_false, Nat.not_lt_zero, false_or, or_false, ft9, decide_true, o10, eq_self, b2i_0, b2i_1, b2i_ok, b2i_inj, b2i_t, b2i_f, RR182 h, y1]
    rfl
  unfold F_X12_primaryBy at u1
  rw [u1, L_X12_primaryBy_27]
  have z20 : ((2 : Int32) ≤ 0) = False := by decide
  have z21 : ((2 : Int32) ≤ 1) = False := by decide
  have z01 : (0 : Int32) + 1 = 1 := by decide
  by_cases q1 : 2 * sumW (wt cs len σ) (st &&& p) n ≤ sumW (wt cs len σ) (gI σ 0 1) n
  · have l1 : lame (wt cs len σ) (sumW (wt cs len σ) (gI σ 0 1) n) n (st &&& p) = true := by unfold lame; exact decide_eq_true q1
    by_cases q2 : 2 * sumW (wt cs len σ) (st &&& (p ^^^ (-1 : Int32))) n ≤ sumW (wt cs len σ) (gI σ 0 1) n
    · have l2 : lame (wt cs len σ) (sumW (wt cs len σ) (gI σ 0 1) n) n (st &&& (p ^^^ (-1 : Int32))) = true := by unfold lame; exact decide_eq_true q2
      rw [l1, l2]
      refine ⟨m3, ?_, Fm_trans y2 (Fm_trans x2 w2)⟩
      have z22 : ((2 : Int32) ≤ 1 + 1) = True := by decide
      simp only [z20, if_true, if_false, jn_e, lt9_e, MC_o k1, gd_t, x1, bd_s, q1, z01]
      rw [L_X12_primaryBy_27]
      simp only [z21, if_true, if_false, jn_e, lt9_e, MC_o k2, gd_t, w1, bd_s, q2, o10]
      rw [show (99998 : Nat) = 99997 + 1 from rfl, L_X12_primaryBy_27]
      simp only [z22, if_true]
    · have l2 : lame (wt cs len σ) (sumW (wt cs len σ) (gI σ 0 1) n) n (st &&& (p ^^^ (-1 : Int32))) = false := by unfold lame; exact decide_eq_false q2
      rw [l1, l2]
      refine ⟨m3, ?_, Fm_trans y2 (Fm_trans x2 w2)⟩
      simp only [z20, if_true, if_false, jn_e, lt9_e, MC_o k1, gd_t, x1, bd_s, q1, z01]
      rw [L_X12_primaryBy_27]
      have c := k3
      simp (disch := first | omega | exact MC_ne c | ((repeat (first | exact c | apply MC_w1)); done) | decide) only [gd_t, bd_s, oc_s, oc_n, lt9_e, jn_e, okOwI, okAwI, okTwI, lnwI, okOwL, okAwL, okTwL, lnwL, rRwI, rRwL, sHwI, sHwL, rIwL, rLwI, bit_f, uf_ap, ↓if_pos, ↓if_neg, MC_o c, MC_t c, MC_0 c, MC_2 c, MC_n c, MC_l c, MC_w c, MC_wk c, rIw, rIw_ne, ni_le, ni_lt, ni_eq, ni_add, ni_mul, lni_le, lni_lt, nil_le, nil_lt, lni_eq, nil_eq, lni_add, nil_add, lni_mul, nil_mul, ix_ni, ix_lit, ni_ne1, ni_lt0, ↓reduceIte, Nat.reduceEqDiff, Nat.reduceMul, Nat.reduceAdd, Nat.reduceLeDiff, and_true, true_and, false_and, and_false, if_true, if_false, Nat.not_lt_zero, false_or, or_false, ft9, decide_true, o10, eq_self, b2i_0, b2i_1, b2i_ok, b2i_inj, b2i_t, b2i_f, z20, z21, z01, MC_o k1, MC_o k2, x1, q1, w1, q2, RR184 h3, RR186 h3, e4, reduceCtorEq]
  · have l1 : lame (wt cs len σ) (sumW (wt cs len σ) (gI σ 0 1) n) n (st &&& p) = false := by unfold lame; exact decide_eq_false q1
    rw [l1]
    refine ⟨m2, ?_, Fm_trans y2 x2⟩
    have c := k2
    simp (disch := first | omega | exact MC_ne c | ((repeat (first | exact c | apply MC_w1)); done) | decide) only [gd_t, bd_s, oc_s, oc_n, lt9_e, jn_e, okOwI, okAwI, okTwI, lnwI, okOwL, okAwL, okTwL, lnwL, rRwI, rRwL, sHwI, sHwL, rIwL, rLwI, bit_f, uf_ap, ↓if_pos, ↓if_neg, MC_o c, MC_t c, MC_0 c, MC_2 c, MC_n c, MC_l c, MC_w c, MC_wk c, rIw, rIw_ne, ni_le, ni_lt, ni_eq, ni_add, ni_mul, lni_le, lni_lt, nil_le, nil_lt, lni_eq, nil_eq, lni_add, nil_add, lni_mul, nil_mul, ix_ni, ix_lit, ni_ne1, ni_lt0, ↓reduceIte, Nat.reduceEqDiff, Nat.reduceMul, Nat.reduceAdd, Nat.reduceLeDiff, and_true, true_and, false_and, and_false, if_true, if_false, Nat.not_lt_zero, false_or, or_false, ft9, decide_true, o10, eq_self, b2i_0, b2i_1, b2i_ok, b2i_inj, b2i_t, b2i_f, z20, z21, z01, MC_o k1, MC_o k2, x1, q1, RR184 h2, RR186 h2, e3, reduceCtorEq]
theorem bel_st {n B : Nat} {σ : St} (wf : WF n B σ) : bel n (standing σ) := bel_and wf.1.2.2.2.1
theorem r_primOf {n len w B : Nat} {lim : Int32} {cs : Nat → Nat} {σ : St} {m : Mm} (hw : w = 473 ∨ w = 474) (wf : WF n B σ) (c : RC n lim len cs m) (h : RR (rI m w) σ) :
    ∃ m', F_X12_primaryOf 49 w m = some (partN cs len n σ, m') ∧ Fm AR m m' := by
  obtain ⟨m', e, f⟩ := r_primBy (p := gI σ 0 6) (st := standing σ) hw wf c h (bel_st wf)
  refine ⟨m', ?_, f⟩
  unfold F_X12_primaryOf
  unfold standing at e
  have c := RC_MC c hw
  simp (disch := first | omega | exact MC_ne c | ((repeat (first | exact c | apply MC_w1)); done) | decide) only [gd_t, bd_s, oc_s, oc_n, lt9_e, jn_e, okOwI, okAwI, okTwI, lnwI, okOwL, okAwL, okTwL, lnwL, rRwI, rRwL, sHwI, sHwL, rIwL, rLwI, bit_f, uf_ap, ↓if_pos, ↓if_neg, MC_o c, MC_t c, MC_0 c, MC_2 c, MC_n c, MC_l c, MC_w c, MC_wk c, rIw, rIw_ne, ni_le, ni_lt, ni_eq, ni_add, ni_mul, lni_le, lni_lt, nil_le, nil_lt, lni_eq, nil_eq, lni_add, nil_add, lni_mul, nil_mul, ix_ni, ix_lit, ni_ne1, ni_lt0, ↓reduceIte, Nat.reduceEqDiff, Nat.reduceMul, Nat.reduceAdd, Nat.reduceLeDiff, and_true, true_and, false_and, and_false, if_true, if_false, Nat.not_lt_zero, false_or, or_false, ft9, decide_true, o10, eq_self, b2i_0, b2i_1, b2i_ok, b2i_inj, b2i_t, b2i_f, RR180 h, RR184 h, RR183 h, e]
  rfl
theorem r_surv {n len w B : Nat} {lim : Int32} {cs : Nat → Nat} {σ : St} {m : Mm} (hw : w = 473 ∨ w = 474) (wf : WF n B σ) (c : RC n lim len cs m) (h : RR (rI m w) σ) :
    ∃ m', F_X12_survivors 49 w m = some (survN cs len n σ, m') ∧ Fm AR m m' := by
  obtain ⟨m', e, f⟩ := r_primOf hw wf c h
  refine ⟨m', ?_, f⟩
  unfold F_X12_survivors survN
  have k1 := RC_MC (RC_q c f) hw
  have c := RC_MC c hw
  have h1 : RR (rI m' w) σ := by rw [AR_w hw f]; exact h
  by_cases q : partN cs len n σ = -1
  · simp (disch := first | omega | exact MC_ne c | ((repeat (first | exact c | apply MC_w1)); done) | decide) only [gd_t, bd_s, oc_s, oc_n, lt9_e, jn_e, okOwI, okAwI, okTwI, lnwI, okOwL, okAwL, okTwL, lnwL, rRwI, rRwL, sHwI, sHwL, rIwL, rLwI, bit_f, uf_ap, ↓if_pos, ↓if_neg, MC_o c, MC_t c, MC_0 c, MC_2 c, MC_n c, MC_l c, MC_w c, MC_wk c, rIw, rIw_ne, ni_le, ni_lt, ni_eq, ni_add, ni_mul, lni_le, lni_lt, nil_le, nil_lt, lni_eq, nil_eq, lni_add, nil_add, lni_mul, nil_mul, ix_ni, ix_lit, ni_ne1, ni_lt0, ↓reduceIte, Nat.reduceEqDiff, Nat.reduceMul, Nat.reduceAdd, Nat.reduceLeDiff, and_true, true_and, false_and, and_false, if_true, if_false, Nat.not_lt_zero, false_or, or_false, ft9, decide_true, o10, eq_self, b2i_0, b2i_1, b2i_ok, b2i_inj, b2i_t, b2i_f, e, q]
  · have q2 : partN cs len n σ &&& gI σ 0 2 = partN cs len n σ &&& standing σ := by
      apply tb_ext
      intro i _
      unfold standing
      rw [tb_and, tb_and, tb_and]
      cases e1 : tb (gI σ 0 2) i
      · simp
      · rw [wf.1.2.2.2.2.2.2.2.1 i e1]
        rfl
    have z := okA_of (i := 183) k1.2.2.2.2.2.1 (by omega) (by omega)
    simp only [MC_o c, gd_t, e, bd_s, lt9_e, q, if_false, MC_wk k1 (show 183 < 968 by omega), ix_lit (show 183 < 2147483648 by omega), RR183 h1, q2]
