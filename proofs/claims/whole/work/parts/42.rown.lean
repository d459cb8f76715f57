/-! L2: further row methods of the reference. -/
/-- what is kept of a State: n members, the greatest number B -/
def mc (σ : St) : Nat := ix (gI σ 0 7)
/-- the sets: viewers, in, up, blocked, wants, parting -/
def WFo (n : Nat) (v i u b w p : Int32) : Prop :=
  n ≤ 6 ∧ bel n v ∧ bel n i ∧ bel n u ∧ bel n b ∧ bel n w ∧ bel 6 p ∧ sbs i u ∧ sbs w u ∧ sbs b i ∧ (∀ k, tb w k = true → tb i k = false)
def WFa (n B : Nat) (σ : St) : Prop :=
  (gI σ 0 7 = ni (mc σ) ∧ mc σ ≤ 30) ∧
  (∀ i, i < 6 → bel (mc σ) (gI σ 2 i)) ∧ (∀ i, i < 6 → bel (mc σ) (gI σ 3 i)) ∧ (∀ j, j < 36 → bel (mc σ) (gI σ 4 j)) ∧
  (∀ k, k < 30 → sbs (gI σ 10 k) (gI σ 0 2)) ∧ (∀ k, k < 30 → mc σ ≤ k → gI σ 10 k = 0) ∧
  (∀ k, k < mc σ → ∃ a, a < n ∧ gI σ 8 k = ni a) ∧
  (∀ i, i < 6 → ∃ h, h ≤ 8 ∧ gI σ 5 i = ni h ∧ (0 < h → tb (gI σ 0 2) i = true)) ∧
  (∀ i, i < 6 → ∃ e, e ≤ 64 ∧ gI σ 7 i = ni e) ∧
  (∃ b, 0 < b ∧ b ≤ B ∧ gI σ 0 0 = ni b ∧ ∀ i, i < 6 → ∃ g, g ≤ b ∧ gI σ 1 i = ni g ∧ (tb (gI σ 0 2) i = true → 0 < g) ∧ (g = 0 → gI σ 7 i = 0)) ∧
  (∀ i, n ≤ i → i < 6 → gI σ 2 i = 0 ∧ gI σ 3 i = 0 ∧ ∀ j, j < 6 → gI σ 4 (i * 6 + j) = 0)
def WF (n B : Nat) (σ : St) : Prop := WFo n (gI σ 0 1) (gI σ 0 2) (gI σ 0 3) (gI σ 0 4) (gI σ 0 5) (gI σ 0 6) ∧ WFa n B σ ∧ B < 1000000
theorem WF_lg {n B a : Nat} {σ : St} (h : WF n B σ) (ha : a < 6) (hs : stands σ a = true) : Lg σ a := by
  obtain ⟨b, hb, hB, _, hg⟩ := h.2.1.2.2.2.2.2.2.2.2.2.1
  obtain ⟨g, hg1, hg2, hg3, _⟩ := hg a ha
  unfold stands standing at hs
  rw [tb_and] at hs
  simp at hs
  refine ⟨?_, h.2.1.2.2.2.2.2.2.2.2.1 a ha⟩
  rw [hg2]
  have h7 := hg3 hs.2
  have h8 := h.2.2
  exact (ni_lt (a := 0) (by omega) (by omega)).mpr h7
theorem WF_6 {n B : Nat} {σ : St} (h : WF n B σ) : n ≤ 6 := h.1.1
theorem WF_mc {n B : Nat} {σ : St} (h : WF n B σ) : gI σ 0 7 = ni (mc σ) := h.2.1.1.1
theorem WF_30 {n B : Nat} {σ : St} (h : WF n B σ) : mc σ ≤ 30 := h.2.1.1.2
theorem st_n {n B a : Nat} {σ : St} (h : WF n B σ) (hs : stands σ a = true) : a < n := by
  unfold stands standing at hs
  rw [tb_and] at hs
  simp at hs
  by_cases e : a < n
  · exact e
  · rw [h.1.2.2.1 a (by omega)] at hs
    exact absurd hs.2 (by decide)
/-! nextOf -/
def nxS (σ : St) (a : Nat) (any : Bool) (i : Nat) (_ : Unit) : Int32 ⊕ Unit :=
  if gI σ 0 7 ≤ ni i then .inl (-1) else if stands σ a = false then .inl (-1) else if tb (gI σ 10 i) a = false then .inr () else if any = true then .inl (ni i) else if reachI σ (ni a) (gI σ 8 i) = false then .inr () else .inl (ni i)
theorem r_nextOf {o t w n B a : Nat} {lim : Int32} {m : Mm} {σ : St} {any : Bool} (c : MC o t w n lim m) (h : RR (rI m w) σ) (hw : WF n B σ) (ha : a < 6) : F_X12_nextOf o w (ni a) (b2i any) m = some (firstOn σ a (!any), m) := by
  have h30 := WF_30 hw
  have hmc := WF_mc hw
  have e : F_X12_nextOf o w (ni a) (b2i any) m = some (ex9 (nxS σ a any) (fun _ => -1) 30 0 (), m) := by
    unfold F_X12_nextOf
    simp only [lt9_e]
    refine lp_ex (L := fun n i _ => L_X12_nextOf_3 n w (ni a) (b2i any) i m) (st := nxS σ a any) (fin := fun _ => -1) (out := fun r => some (r, m)) (N := 30) ?_ ?_ 30 0 NF () (by omega) (by decide)
    · intro f i u hi
      show L_X12_nextOf_3 (f + 1) w (ni a) (b2i any) (ni i) m = _
      rw [L_X12_nextOf_3]
      unfold nxS
      by_cases h1 : mc σ ≤ i
      · simp (disch := first | omega | exact MC_ne c | ((repeat (first | exact c | apply MC_w1)); done) | decide) only [gd_t, bd_s, oc_s, oc_n, lt9_e, jn_e, okOwI, okAwI, okTwI, lnwI, okOwL, okAwL, okTwL, lnwL, rRwI, rRwL, sHwI, sHwL, rIwL, rLwI, bit_f, uf_ap, ↓if_pos, ↓if_neg, MC_o c, MC_t c, MC_0 c, MC_2 c, MC_n c, MC_l c, MC_w c, MC_wk c, rIw, rIw_ne, ni_le, ni_lt, ni_eq, ni_add, ni_mul, lni_le, lni_lt, nil_le, nil_lt, lni_eq, nil_eq, lni_add, nil_add, lni_mul, nil_mul, ix_ni, ix_lit, ni_ne1, ni_lt0, ↓reduceIte, Nat.reduceEqDiff, Nat.reduceMul, Nat.reduceAdd, Nat.reduceLeDiff, and_true, true_and, false_and, and_false, if_true, if_false, Nat.not_lt_zero, false_or, or_false, ft9, decide_true, o10, eq_self, b2i_0, b2i_1, b2i_ok, b2i_inj, b2i_t, b2i_f, RR187 h, hmc]
      · cases h0 : stands σ a
        · simp (disch := first | omega | exact MC_ne c | ((repeat (first | exact c | apply MC_w1)); done) | decide) only [gd_t, bd_s, oc_s, oc_n, lt9_e, jn_e, okOwI, okAwI, okTwI, lnwI, okOwL, okAwL, okTwL, lnwL, rRwI, rRwL, sHwI, sHwL, rIwL, rLwI, bit_f, uf_ap, ↓if_pos, ↓if_neg, MC_o c, MC_t c, MC_0 c, MC_2 c, MC_n c, MC_l c, MC_w c, MC_wk c, rIw, rIw_ne, ni_le, ni_lt, ni_eq, ni_add, ni_mul, lni_le, lni_lt, nil_le, nil_lt, lni_eq, nil_eq, lni_add, nil_add, lni_mul, nil_mul, ix_ni, ix_lit, ni_ne1, ni_lt0, ↓reduceIte, Nat.reduceEqDiff, Nat.reduceMul, Nat.reduceAdd, Nat.reduceLeDiff, and_true, true_and, false_and, and_false, if_true, if_false, Nat.not_lt_zero, false_or, or_false, ft9, decide_true, o10, eq_self, b2i_0, b2i_1, b2i_ok, b2i_inj, b2i_t, b2i_f, RR187 h, hmc, r_inside c h, h0]
        · cases h2 : tb (gI σ 10 i) a
          · simp (disch := first | omega | exact MC_ne c | ((repeat (first | exact c | apply MC_w1)); done) | decide) only [gd_t, bd_s, oc_s, oc_n, lt9_e, jn_e, okOwI, okAwI, okTwI, lnwI, okOwL, okAwL, okTwL, lnwL, rRwI, rRwL, sHwI, sHwL, rIwL, rLwI, bit_f, uf_ap, ↓if_pos, ↓if_neg, MC_o c, MC_t c, MC_0 c, MC_2 c, MC_n c, MC_l c, MC_w c, MC_wk c, rIw, rIw_ne, ni_le, ni_lt, ni_eq, ni_add, ni_mul, lni_le, lni_lt, nil_le, nil_lt, lni_eq, nil_eq, lni_add, nil_add, lni_mul, nil_mul, ix_ni, ix_lit, ni_ne1, ni_lt0, ↓reduceIte, Nat.reduceEqDiff, Nat.reduceMul, Nat.reduceAdd, Nat.reduceLeDiff, and_true, true_and, false_and, and_false, if_true, if_false, Nat.not_lt_zero, false_or, or_false, ft9, decide_true, o10, eq_self, b2i_0, b2i_1, b2i_ok, b2i_inj, b2i_t, b2i_f, RR187 h, hmc, r_inside c h, h0, hasR, RRw h, h2, hi, reduceCtorEq, decide_true, Bool.and_false]
          · cases any
            · obtain ⟨b, hb, hx⟩ := hw.2.1.2.2.2.2.2.2.1 i (by omega)
              have hn := WF_6 hw
              have q1 : rI m w (120 + i) = ni b := (RRs h hi (by unfold mc at h1; omega)).trans hx
              simp (disch := first | omega | exact MC_ne c | ((repeat (first | exact c | apply MC_w1)); done) | decide) only [gd_t, bd_s, oc_s, oc_n, lt9_e, jn_e, okOwI, okAwI, okTwI, lnwI, okOwL, okAwL, okTwL, lnwL, rRwI, rRwL, sHwI, sHwL, rIwL, rLwI, bit_f, uf_ap, ↓if_pos, ↓if_neg, MC_o c, MC_t c, MC_0 c, MC_2 c, MC_n c, MC_l c, MC_w c, MC_wk c, rIw, rIw_ne, ni_le, ni_lt, ni_eq, ni_add, ni_mul, lni_le, lni_lt, nil_le, nil_lt, lni_eq, nil_eq, lni_add, nil_add, lni_mul, nil_mul, ix_ni, ix_lit, ni_ne1, ni_lt0, ↓reduceIte, Nat.reduceEqDiff, Nat.reduceMul, Nat.reduceAdd, Nat.reduceLeDiff, and_true, true_and, false_and, and_false, if_true, if_false, Nat.not_lt_zero, false_or, or_false, ft9, decide_true, o10, eq_self, b2i_0, b2i_1, b2i_ok, b2i_inj, b2i_t, b2i_f, RR187 h, RR180 h, hmc, r_inside c h, h0, hasR, RRw h, h2, hi, reduceCtorEq, decide_true, Bool.and_true, q1, r_reaches, reachI, hx, has6_ni]
              cases tb (gI σ 0 6) a <;> cases tb (gI σ 0 6) b <;> simp [b2i]
            · simp (disch := first | omega | exact MC_ne c | ((repeat (first | exact c | apply MC_w1)); done) | decide) only [gd_t, bd_s, oc_s, oc_n, lt9_e, jn_e, okOwI, okAwI, okTwI, lnwI, okOwL, okAwL, okTwL, lnwL, rRwI, rRwL, sHwI, sHwL, rIwL, rLwI, bit_f, uf_ap, ↓if_pos, ↓if_neg, MC_o c, MC_t c, MC_0 c, MC_2 c, MC_n c, MC_l c, MC_w c, MC_wk c, rIw, rIw_ne, ni_le, ni_lt, ni_eq, ni_add, ni_mul, lni_le, lni_lt, nil_le, nil_lt, lni_eq, nil_eq, lni_add, nil_add, lni_mul, nil_mul, ix_ni, ix_lit, ni_ne1, ni_lt0, ↓reduceIte, Nat.reduceEqDiff, Nat.reduceMul, Nat.reduceAdd, Nat.reduceLeDiff, and_true, true_and, false_and, and_false, if_true, if_false, Nat.not_lt_zero, false_or, or_false, ft9, decide_true, o10, eq_self, b2i_0, b2i_1, b2i_ok, b2i_inj, b2i_t, b2i_f, RR187 h, hmc, r_inside c h, h0, hasR, RRw h, h2, hi, reduceCtorEq, decide_true, Bool.and_true]
    · intro f u
      show L_X12_nextOf_3 (f + 1) w (ni a) (b2i any) (ni 30) m = _
      rw [L_X12_nextOf_3]
      simp (disch := first | omega | exact MC_ne c | ((repeat (first | exact c | apply MC_w1)); done) | decide) only [gd_t, bd_s, oc_s, oc_n, lt9_e, jn_e, okOwI, okAwI, okTwI, lnwI, okOwL, okAwL, okTwL, lnwL, rRwI, rRwL, sHwI, sHwL, rIwL, rLwI, bit_f, uf_ap, ↓if_pos, ↓if_neg, MC_o c, MC_t c, MC_0 c, MC_2 c, MC_n c, MC_l c, MC_w c, MC_wk c, rIw, rIw_ne, ni_le, ni_lt, ni_eq, ni_add, ni_mul, lni_le, lni_lt, nil_le, nil_lt, lni_eq, nil_eq, lni_add, nil_add, lni_mul, nil_mul, ix_ni, ix_lit, ni_ne1, ni_lt0, ↓reduceIte, Nat.reduceEqDiff, Nat.reduceMul, Nat.reduceAdd, Nat.reduceLeDiff, and_true, true_and, false_and, and_false, if_true, if_false, Nat.not_lt_zero, false_or, or_false, ft9, decide_true, o10, eq_self, b2i_0, b2i_1, b2i_ok, b2i_inj, b2i_t, b2i_f, RR187 h, hmc]
  rw [e]
  unfold firstOn
  cases h0 : stands σ a
  · rw [ex9]
    unfold nxS
    by_cases h1 : gI σ 0 7 ≤ ni 0
    · simp [h1]
    · simp [h1, h0]
  · have e2 : nxS σ a any = fowS σ a (!any) := by
      funext i u
      unfold nxS fowS
      rw [h0]
      cases any <;> simp
    rw [e2]
    simp
/-! takesOne -/
theorem fow_lt (σ : St) (a : Nat) (o : Bool) : ∀ (d i : Nat), i + d = 30 → ∀ k, k < 30 → ex9 (fowS σ a o) (fun _ => -1) d i () = ni k → ¬ gI σ 0 7 ≤ ni k ∧ tb (gI σ 10 k) a = true := by
  intro d
  induction d with
  | zero =>
    intro i hi k hk e
    rw [ex9] at e
    exact absurd e.symm (fun q => (ni_ne1 (by omega)).mp q)
  | succ d ih =>
    intro i hi k hk e
    rw [ex9] at e
    by_cases h1 : gI σ 0 7 ≤ ni i
    · simp only [fowS, h1, if_true] at e
      exact absurd e.symm (fun q => (ni_ne1 (by omega)).mp q)
    · cases h2 : tb (gI σ 10 i) a
      · simp only [fowS, h1, h2, if_true, if_false] at e
        exact ih (i + 1) (by omega) k hk e
      · cases o
        · simp only [fowS, h1, h2, if_true, if_false, reduceCtorEq] at e
          have := (ni_eq (by omega) (by omega)).mp e
          subst this
          exact ⟨h1, h2⟩
        · cases h3 : reachI σ (ni a) (gI σ 8 i)
          · simp only [fowS, h1, h2, h3, if_true, if_false, reduceCtorEq] at e
            exact ih (i + 1) (by omega) k hk e
          · simp only [fowS, h1, h2, h3, if_true, if_false, reduceCtorEq] at e
            have := (ni_eq (by omega) (by omega)).mp e
            subst this
            exact ⟨h1, h2⟩
theorem RR_take {ρ : Nat → Int32} {σ : St} {a k : Nat} (h : RR ρ σ) (ha : a < 6) (hk : k < 30) : RR (uf ρ (24 + a) (ρ (24 + a) &&& (bit k ^^^ (-1 : Int32)))) (tI σ 10 k (gI σ 10 k &&& (bit a ^^^ (-1 : Int32)))) := by
  refine RR_way h (fun j hj => ?_) (fun b j hb => ?_) (fun b j => rfl) (fun i hi k' => ?_)
  · rw [uf_ap, if_neg (by omega)]
  · rw [gI_tI, if_neg (by omega)]
  · rw [uf_ap, gI_tI]
    have q := RRw h hi k'
    have q2 := RRw h ha k'
    by_cases e : i = a
    · subst e
      rw [if_pos rfl, tb_and, tb_not, bit, tb_bit (by omega), q]
      by_cases e2 : k' = k
      · subst e2
        rw [if_pos ⟨rfl, rfl⟩, tb_and, tb_not, bit, tb_bit (by omega)]
        simp
      · rw [if_neg (by omega)]
        by_cases e3 : k' < 32
        · simp [e2, e3]
        · have e4 : ¬ k' < 30 := by omega
          simp [e4]
    · rw [if_neg (by omega), q]
      by_cases e2 : k' = k
      · subst e2
        rw [if_pos ⟨rfl, rfl⟩, tb_and, tb_not, bit, tb_bit (by omega)]
        have e3 : i < 32 := by omega
        simp [e, e3]
      · rw [if_neg (by omega)]
theorem r_takesOne {o t w n B a : Nat} {lim : Int32} {m : Mm} {σ : St} {lost : Bool} (c : MC o t w n lim m) (h : RR (rI m w) σ) (hw : WF n B σ) (ha : a < 6) :
    UR w m (F_X12_takesOne o w (ni a) (b2i lost) m) (b2i (if lost then loseS σ a else takeS σ a).1) (if lost then loseS σ a else takeS σ a).2 := by
  unfold F_X12_takesOne
  have q := r_nextOf (any := lost) c h hw ha
  have hst : firstOn σ a (!lost) ≠ -1 → stands σ a = true := by
    unfold firstOn
    cases stands σ a <;> simp
  have hmk : ∀ k, firstOn σ a (!lost) = ni k → k < 30 → k < mc σ := by
    intro k hk hk2
    have hs := hst (by rw [hk]; intro q; exact (ni_ne1 (by omega)).mp q)
    unfold firstOn at hk
    rw [hs] at hk
    have z := (fow_lt σ a (!lost) 30 0 rfl k hk2 hk).1
    rw [WF_mc hw, ni_le (by have := WF_30 hw; omega) (by omega)] at z
    omega
  rcases firstOn_rng σ a (!lost) with e | ⟨k, hk, e⟩
  · rw [e] at q
    have e2 : (if lost then loseS σ a else takeS σ a) = (false, σ) := by
      cases lost
      · simp [takeS] at e ⊢
        rw [e]
        simp [n1_le]
      · simp [loseS] at e ⊢
        rw [e]
        simp [n1_le]
    rw [e2]
    simp (disch := first | omega | exact MC_ne c | ((repeat (first | exact c | apply MC_w1)); done) | decide) only [gd_t, bd_s, oc_s, oc_n, lt9_e, jn_e, okOwI, okAwI, okTwI, lnwI, okOwL, okAwL, okTwL, lnwL, rRwI, rRwL, sHwI, sHwL, rIwL, rLwI, bit_f, uf_ap, ↓if_pos, ↓if_neg, MC_o c, MC_t c, MC_0 c, MC_2 c, MC_n c, MC_l c, MC_w c, MC_wk c, rIw, rIw_ne, ni_le, ni_lt, ni_eq, ni_add, ni_mul, lni_le, lni_lt, nil_le, nil_lt, lni_eq, nil_eq, lni_add, nil_add, lni_mul, nil_mul, ix_ni, ix_lit, ni_ne1, ni_lt0, ↓reduceIte, Nat.reduceEqDiff, Nat.reduceMul, Nat.reduceAdd, Nat.reduceLeDiff, and_true, true_and, false_and, and_false, if_true, if_false, Nat.not_lt_zero, false_or, or_false, ft9, decide_true, o10, eq_self, b2i_0, b2i_1, b2i_ok, b2i_inj, b2i_t, b2i_f, q]
    exact ⟨m, rfl, h, Fm_refl _ _⟩
  · rw [e] at q
    have hm := hmk k e hk
    have hs := hst (by rw [e]; intro q; exact (ni_ne1 (by omega)).mp q)
    have h1 := RR_take (k := k) h ha hk
    have f1 : Fm (fun b => b = w) m (wI m w (24 + a) (rI m w (24 + a) &&& (bit k ^^^ (-1 : Int32)))) := (by repeat' (first | exact Fm_refl _ _ | apply Fm_wI | apply Fm_wL | rfl))
    rw [← rIw] at h1
    cases lost
    · simp only [b2i_f] at q
      have e2 : (if false = true then loseS σ a else takeS σ a) = (true, deliver (tI σ 10 k (gI σ 10 k &&& (bit a ^^^ (-1 : Int32)))) a k) := by
        simp [takeS] at e ⊢
        rw [e]
        simp (disch := first | omega | decide) only [ix_ni, show (0 : Int32) = ni 0 from rfl, ni_le, Nat.zero_le, if_true]
      rw [e2]
      obtain ⟨m', x1, x2, x3⟩ := r_delivers (MC_fr c f1) h1 ha hk hm (by have z := WF_lg hw ha hs; exact z)
      simp (disch := first | omega | exact MC_ne c | ((repeat (first | exact c | apply MC_w1)); done) | decide) only [gd_t, bd_s, oc_s, oc_n, lt9_e, jn_e, okOwI, okAwI, okTwI, lnwI, okOwL, okAwL, okTwL, lnwL, rRwI, rRwL, sHwI, sHwL, rIwL, rLwI, bit_f, uf_ap, ↓if_pos, ↓if_neg, MC_o c, MC_t c, MC_0 c, MC_2 c, MC_n c, MC_l c, MC_w c, MC_wk c, rIw, rIw_ne, ni_le, ni_lt, ni_eq, ni_add, ni_mul, lni_le, lni_lt, nil_le, nil_lt, lni_eq, nil_eq, lni_add, nil_add, lni_mul, nil_mul, ix_ni, ix_lit, ni_ne1, ni_lt0, ↓reduceIte, Nat.reduceEqDiff, Nat.reduceMul, Nat.reduceAdd, Nat.reduceLeDiff, and_true, true_and, false_and, and_false, if_true, if_false, Nat.not_lt_zero, false_or, or_false, ft9, decide_true, o10, eq_self, b2i_0, b2i_1, b2i_ok, b2i_inj, b2i_t, b2i_f, q, x1]
      exact ⟨m', rfl, x2, Fm_trans f1 x3.1⟩
    · simp only [b2i_t] at q
      have e2 : (if true = true then loseS σ a else takeS σ a) = (true, tI σ 10 k (gI σ 10 k &&& (bit a ^^^ (-1 : Int32)))) := by
        simp [loseS] at e ⊢
        rw [e]
        simp (disch := first | omega | decide) only [ix_ni, show (0 : Int32) = ni 0 from rfl, ni_le, Nat.zero_le, if_true]
      rw [e2]
      simp (disch := first | omega | exact MC_ne c | ((repeat (first | exact c | apply MC_w1)); done) | decide) only [gd_t, bd_s, oc_s, oc_n, lt9_e, jn_e, okOwI, okAwI, okTwI, lnwI, okOwL, okAwL, okTwL, lnwL, rRwI, rRwL, sHwI, sHwL, rIwL, rLwI, bit_f, uf_ap, ↓if_pos, ↓if_neg, MC_o c, MC_t c, MC_0 c, MC_2 c, MC_n c, MC_l c, MC_w c, MC_wk c, rIw, rIw_ne, ni_le, ni_lt, ni_eq, ni_add, ni_mul, lni_le, lni_lt, nil_le, nil_lt, lni_eq, nil_eq, lni_add, nil_add, lni_mul, nil_mul, ix_ni, ix_lit, ni_ne1, ni_lt0, ↓reduceIte, Nat.reduceEqDiff, Nat.reduceMul, Nat.reduceAdd, Nat.reduceLeDiff, and_true, true_and, false_and, and_false, if_true, if_false, Nat.not_lt_zero, false_or, or_false, ft9, decide_true, o10, eq_self, b2i_0, b2i_1, b2i_ok, b2i_inj, b2i_t, b2i_f, q]
      exact ⟨_, rfl, h1, f1⟩
