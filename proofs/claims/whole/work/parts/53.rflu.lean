/-! L2: the reference's flush; sums behind a flush; who agrees. -/
theorem r_keptBy {w n B : Nat} {lim x : Int32} {m : Mm} {σ : St} (c : MC 49 53 w n lim m) (h : RR (rI m w) σ) (hw : WF n B σ) (hb : bel n x) : F_X12_keptBy 49 w x m = some (keptBy σ x, m) := by
  unfold F_X12_keptBy keptBy
  have hn := WF_6 hw
  simp only [lt9_e]
  rw [itn_tail hn]
  · refine lp_eq (L := fun f i a => L_X12_keptBy_5 f 49 w x a i m) (f := keptF σ x) (N := n) (fin := fun a => some (a, m)) ?_ ?_ n 0 NF _ (by omega) (by unfold NF; omega)
    · intro f i a hi
      show L_X12_keptBy_5 (f + 1) 49 w x a (ni i) m = _
      rw [L_X12_keptBy_5]
      unfold keptF
      cases h1 : tb x i
      · simp (disch := first | omega | exact MC_ne c | ((repeat (first | exact c | apply MC_w1)); done) | decide) only [gd_t, bd_s, oc_s, oc_n, lt9_e, jn_e, okOwI, okAwI, okTwI, lnwI, okOwL, okAwL, okTwL, lnwL, rRwI, rRwL, sHwI, sHwL, rIwL, rLwI, bit_f, uf_ap, ↓if_pos, ↓if_neg, MC_o c, MC_t c, MC_0 c, MC_2 c, MC_n c, MC_l c, MC_w c, MC_wk c, rIw, rIw_ne, ni_le, ni_lt, ni_eq, ni_add, ni_mul, lni_le, lni_lt, nil_le, nil_lt, lni_eq, nil_eq, lni_add, nil_add, lni_mul, nil_mul, ix_ni, ix_lit, ni_ne1, ni_lt0, ↓reduceIte, Nat.reduceEqDiff, Nat.reduceMul, Nat.reduceAdd, Nat.reduceLeDiff, and_true, true_and, false_and, and_false, if_true, if_false, Nat.not_lt_zero, false_or, or_false, ft9, decide_true, o10, eq_self, b2i_0, b2i_1, b2i_ok, b2i_inj, b2i_t, b2i_f, hasR, h1, reduceCtorEq]
      · simp (disch := first | omega | exact MC_ne c | ((repeat (first | exact c | apply MC_w1)); done) | decide) only [gd_t, bd_s, oc_s, oc_n, lt9_e, jn_e, okOwI, okAwI, okTwI, lnwI, okOwL, okAwL, okTwL, lnwL, rRwI, rRwL, sHwI, sHwL, rIwL, rLwI, bit_f, uf_ap, ↓if_pos, ↓if_neg, MC_o c, MC_t c, MC_0 c, MC_2 c, MC_n c, MC_l c, MC_w c, MC_wk c, rIw, rIw_ne, ni_le, ni_lt, ni_eq, ni_add, ni_mul, lni_le, lni_lt, nil_le, nil_lt, lni_eq, nil_eq, lni_add, nil_add, lni_mul, nil_mul, ix_ni, ix_lit, ni_ne1, ni_lt0, ↓reduceIte, Nat.reduceEqDiff, Nat.reduceMul, Nat.reduceAdd, Nat.reduceLeDiff, and_true, true_and, false_and, and_false, if_true, if_false, Nat.not_lt_zero, false_or, or_false, ft9, decide_true, o10, eq_self, b2i_0, b2i_1, b2i_ok, b2i_inj, b2i_t, b2i_f, hasR, h1, reduceCtorEq, RRk h]
    · intro f a
      show L_X12_keptBy_5 (f + 1) 49 w x a (ni n) m = _
      rw [L_X12_keptBy_5]
      simp (disch := first | omega | exact MC_ne c | ((repeat (first | exact c | apply MC_w1)); done) | decide) only [gd_t, bd_s, oc_s, oc_n, lt9_e, jn_e, okOwI, okAwI, okTwI, lnwI, okOwL, okAwL, okTwL, lnwL, rRwI, rRwL, sHwI, sHwL, rIwL, rLwI, bit_f, uf_ap, ↓if_pos, ↓if_neg, MC_o c, MC_t c, MC_0 c, MC_2 c, MC_n c, MC_l c, MC_w c, MC_wk c, rIw, rIw_ne, ni_le, ni_lt, ni_eq, ni_add, ni_mul, lni_le, lni_lt, nil_le, nil_lt, lni_eq, nil_eq, lni_add, nil_add, lni_mul, nil_mul, ix_ni, ix_lit, ni_ne1, ni_lt0, ↓reduceIte, Nat.reduceEqDiff, Nat.reduceMul, Nat.reduceAdd, Nat.reduceLeDiff, and_true, true_and, false_and, and_false, if_true, if_false, Nat.not_lt_zero, false_or, or_false, ft9, decide_true, o10, eq_self, b2i_0, b2i_1, b2i_ok, b2i_inj, b2i_t, b2i_f, Nat.le_refl]
  · intro k hk hk6
    rw [keptF, hb k hk]
    simp
theorem r_flush1 {K : Nat → Nat → Int32 → Int32 → Int32 → Mm → Option (Unit × Mm)} {w n a : Nat} {lim x kept : Int32} {m : Mm} {σ : St} (c : MC 49 53 w n lim m) (h : RR (rI m w) σ) (ha : a < 6) (h7 : gI σ 0 7 = ni (mc σ) ∧ mc σ ≤ 30) (hk : bel (mc σ) kept) (hl : tb x a = true → Lg σ a) :
    ∃ m', L_X12_flushes_24 K NF 49 w x kept (ni a) 0 m = K 49 w x kept (ni a) m' ∧ RR (rI m' w) (flushM kept x a σ) ∧ Fm (fun b => b = w) m m' := by
  obtain ⟨h7, h30⟩ := h7
  unfold flushM
  cases hx : tb x a
  · refine ⟨m, ?_, ?_, Fm_refl _ _⟩
    · rw [show NF = 99999 + 1 from rfl, L_X12_flushes_24]
      by_cases q : gI σ 0 7 ≤ 0
      · simp (disch := first | omega | exact MC_ne c | ((repeat (first | exact c | apply MC_w1)); done) | decide) only [gd_t, bd_s, oc_s, oc_n, lt9_e, jn_e, okOwI, okAwI, okTwI, lnwI, okOwL, okAwL, okTwL, lnwL, rRwI, rRwL, sHwI, sHwL, rIwL, rLwI, bit_f, uf_ap, ↓if_pos, ↓if_neg, MC_o c, MC_t c, MC_0 c, MC_2 c, MC_n c, MC_l c, MC_w c, MC_wk c, rIw, rIw_ne, ni_le, ni_lt, ni_eq, ni_add, ni_mul, lni_le, lni_lt, nil_le, nil_lt, lni_eq, nil_eq, lni_add, nil_add, lni_mul, nil_mul, ix_ni, ix_lit, ni_ne1, ni_lt0, ↓reduceIte, Nat.reduceEqDiff, Nat.reduceMul, Nat.reduceAdd, Nat.reduceLeDiff, and_true, true_and, false_and, and_false, if_true, if_false, Nat.not_lt_zero, false_or, or_false, ft9, decide_true, o10, eq_self, b2i_0, b2i_1, b2i_ok, b2i_inj, b2i_t, b2i_f, RR187 h, q]
      · simp (disch := first | omega | exact MC_ne c | ((repeat (first | exact c | apply MC_w1)); done) | decide) only [gd_t, bd_s, oc_s, oc_n, lt9_e, jn_e, okOwI, okAwI, okTwI, lnwI, okOwL, okAwL, okTwL, lnwL, rRwI, rRwL, sHwI, sHwL, rIwL, rLwI, bit_f, uf_ap, ↓if_pos, ↓if_neg, MC_o c, MC_t c, MC_0 c, MC_2 c, MC_n c, MC_l c, MC_w c, MC_wk c, rIw, rIw_ne, ni_le, ni_lt, ni_eq, ni_add, ni_mul, lni_le, lni_lt, nil_le, nil_lt, lni_eq, nil_eq, lni_add, nil_add, lni_mul, nil_mul, ix_ni, ix_lit, ni_ne1, ni_lt0, ↓reduceIte, Nat.reduceEqDiff, Nat.reduceMul, Nat.reduceAdd, Nat.reduceLeDiff, and_true, true_and, false_and, and_false, if_true, if_false, Nat.not_lt_zero, false_or, or_false, ft9, decide_true, o10, eq_self, b2i_0, b2i_1, b2i_ok, b2i_inj, b2i_t, b2i_f, RR187 h, q, hasR, hx]
    · simp only [reduceCtorEq, if_false]
      rw [itn_id]
      · exact h
      · intro k _ _
        unfold flush1
        rw [tb_0]
        simp
  · simp only [if_true]
    have hlk : bel (mc σ) (kept &&& (gI σ 2 a ^^^ (-1 : Int32))) := bel_and hk
    rw [itn_tail h30]
    · have z := lp_row (L := fun f i m => L_X12_flushes_24 K f 49 w x kept (ni a) i m) (f := flush1 (kept &&& (gI σ 2 a ^^^ (-1 : Int32))) a) (N := mc σ) (fin := fun m => K 49 w x kept (ni a) m) (P := fun i τ => gI τ 0 7 = ni (mc σ) ∧ Lg τ a ∧ ∀ j, i ≤ j → tb (gI τ 2 a) j = tb (gI σ 2 a) j) ?_ ?_ c h ⟨h7, hl hx, fun _ _ => rfl⟩ (by omega)
      · obtain ⟨m', e1, e2, e3, e4⟩ := z
        exact ⟨m', e1, e2, e3⟩
      · intro f i m τ hi c h hp
        obtain ⟨p1, p2, p3⟩ := hp
        show ∃ m', L_X12_flushes_24 K (f + 1) 49 w x kept (ni a) (ni i) m = _ ∧ _
        rw [L_X12_flushes_24]
        have hgi := p3 i (Nat.le_refl _)
        have hlb : tb (kept &&& (gI σ 2 a ^^^ (-1 : Int32))) i = (tb kept i && !tb (gI σ 2 a) i) := by
          rw [tb_and, tb_not]
          have : i < 32 := by omega
          simp [this]
        unfold flush1
        rw [hlb]
        cases q1 : tb kept i
        · refine ⟨m, ?_, h, Fm_refl _ _, p1, p2, fun j hj => p3 j (by omega)⟩
          simp (disch := first | omega | exact MC_ne c | ((repeat (first | exact c | apply MC_w1)); done) | decide) only [gd_t, bd_s, oc_s, oc_n, lt9_e, jn_e, okOwI, okAwI, okTwI, lnwI, okOwL, okAwL, okTwL, lnwL, rRwI, rRwL, sHwI, sHwL, rIwL, rLwI, bit_f, uf_ap, ↓if_pos, ↓if_neg, MC_o c, MC_t c, MC_0 c, MC_2 c, MC_n c, MC_l c, MC_w c, MC_wk c, rIw, rIw_ne, ni_le, ni_lt, ni_eq, ni_add, ni_mul, lni_le, lni_lt, nil_le, nil_lt, lni_eq, nil_eq, lni_add, nil_add, lni_mul, nil_mul, ix_ni, ix_lit, ni_ne1, ni_lt0, ↓reduceIte, Nat.reduceEqDiff, Nat.reduceMul, Nat.reduceAdd, Nat.reduceLeDiff, and_true, true_and, false_and, and_false, if_true, if_false, Nat.not_lt_zero, false_or, or_false, ft9, decide_true, o10, eq_self, b2i_0, b2i_1, b2i_ok, b2i_inj, b2i_t, b2i_f, RR187 h, p1, hasR, hx, q1, reduceCtorEq]
        · cases q2 : tb (gI σ 2 a) i
          · obtain ⟨m', x1, x2, x3⟩ := r_delivers (k := i) c h ha (by omega) (by rw [p1, ix_ni (by omega)]; exact hi) p2
            simp only [Bool.not_false, Bool.and_true, if_true]
            refine ⟨m', ?_, x2, x3.1, ?_, Lg_del p2, fun j hj => ?_⟩
            · simp (disch := first | omega | exact MC_ne c | ((repeat (first | exact c | apply MC_w1)); done) | decide) only [gd_t, bd_s, oc_s, oc_n, lt9_e, jn_e, okOwI, okAwI, okTwI, lnwI, okOwL, okAwL, okTwL, lnwL, rRwI, rRwL, sHwI, sHwL, rIwL, rLwI, bit_f, uf_ap, ↓if_pos, ↓if_neg, MC_o c, MC_t c, MC_0 c, MC_2 c, MC_n c, MC_l c, MC_w c, MC_wk c, rIw, rIw_ne, ni_le, ni_lt, ni_eq, ni_add, ni_mul, lni_le, lni_lt, nil_le, nil_lt, lni_eq, nil_eq, lni_add, nil_add, lni_mul, nil_mul, ix_ni, ix_lit, ni_ne1, ni_lt0, ↓reduceIte, Nat.reduceEqDiff, Nat.reduceMul, Nat.reduceAdd, Nat.reduceLeDiff, and_true, true_and, false_and, and_false, if_true, if_false, Nat.not_lt_zero, false_or, or_false, ft9, decide_true, o10, eq_self, b2i_0, b2i_1, b2i_ok, b2i_inj, b2i_t, b2i_f, RR187 h, p1, hasR, hx, q1, RRg h, hgi, q2, reduceCtorEq, x1]
            · rw [gI_del, if_neg (by omega), if_neg (by omega), if_neg (by omega), if_neg (by omega)]
              exact p1
            · rw [gI_del, if_neg (by omega), if_neg (by omega), if_neg (by omega), if_pos ⟨rfl, rfl⟩, tb_or, bit, tb_bit (by omega), p3 j (by omega)]
              have : ¬ j = i := by omega
              simp [this]
          · simp only [Bool.not_true, Bool.and_false, reduceCtorEq, if_false]
            refine ⟨m, ?_, h, Fm_refl _ _, p1, p2, fun j hj => p3 j (by omega)⟩
            simp (disch := first | omega | exact MC_ne c | ((repeat (first | exact c | apply MC_w1)); done) | decide) only [gd_t, bd_s, oc_s, oc_n, lt9_e, jn_e, okOwI, okAwI, okTwI, lnwI, okOwL, okAwL, okTwL, lnwL, rRwI, rRwL, sHwI, sHwL, rIwL, rLwI, bit_f, uf_ap, ↓if_pos, ↓if_neg, MC_o c, MC_t c, MC_0 c, MC_2 c, MC_n c, MC_l c, MC_w c, MC_wk c, rIw, rIw_ne, ni_le, ni_lt, ni_eq, ni_add, ni_mul, lni_le, lni_lt, nil_le, nil_lt, lni_eq, nil_eq, lni_add, nil_add, lni_mul, nil_mul, ix_ni, ix_lit, ni_ne1, ni_lt0, ↓reduceIte, Nat.reduceEqDiff, Nat.reduceMul, Nat.reduceAdd, Nat.reduceLeDiff, and_true, true_and, false_and, and_false, if_true, if_false, Nat.not_lt_zero, false_or, or_false, ft9, decide_true, o10, eq_self, b2i_0, b2i_1, b2i_ok, b2i_inj, b2i_t, b2i_f, RR187 h, p1, hasR, hx, q1, RRg h, hgi, q2, reduceCtorEq]
      · intro f m τ c h hp
        show L_X12_flushes_24 K (f + 1) 49 w x kept (ni a) (ni (mc σ)) m = _
        rw [L_X12_flushes_24]
        simp (disch := first | omega | exact MC_ne c | ((repeat (first | exact c | apply MC_w1)); done) | decide) only [gd_t, bd_s, oc_s, oc_n, lt9_e, jn_e, okOwI, okAwI, okTwI, lnwI, okOwL, okAwL, okTwL, lnwL, rRwI, rRwL, sHwI, sHwL, rIwL, rLwI, bit_f, uf_ap, ↓if_pos, ↓if_neg, MC_o c, MC_t c, MC_0 c, MC_2 c, MC_n c, MC_l c, MC_w c, MC_wk c, rIw, rIw_ne, ni_le, ni_lt, ni_eq, ni_add, ni_mul, lni_le, lni_lt, nil_le, nil_lt, lni_eq, nil_eq, lni_add, nil_add, lni_mul, nil_mul, ix_ni, ix_lit, ni_ne1, ni_lt0, ↓reduceIte, Nat.reduceEqDiff, Nat.reduceMul, Nat.reduceAdd, Nat.reduceLeDiff, and_true, true_and, false_and, and_false, if_true, if_false, Nat.not_lt_zero, false_or, or_false, ft9, decide_true, o10, eq_self, b2i_0, b2i_1, b2i_ok, b2i_inj, b2i_t, b2i_f, RR187 h, hp.1, Nat.le_refl]
    · intro k h1 h2
      unfold flush1
      rw [hlk k h1]
      simp
theorem r_flushes {w n B : Nat} {lim x : Int32} {m : Mm} {σ : St} (c : MC 49 53 w n lim m) (h : RR (rI m w) σ) (hw : WF n B σ) (hb : bel n x) (hl : ∀ a, a < 6 → tb x a = true → Lg σ a) :
    UR w m (F_X12_flushes 49 w x m) () (flush σ x) := by
  unfold F_X12_flushes
  have hn := WF_6 hw
  have hkb := keptBy_bel hw x
  have hr := r_keptBy c h hw hb
  simp (disch := first | omega | exact MC_ne c | ((repeat (first | exact c | apply MC_w1)); done) | decide) only [gd_t, bd_s, oc_s, oc_n, lt9_e, jn_e, okOwI, okAwI, okTwI, lnwI, okOwL, okAwL, okTwL, lnwL, rRwI, rRwL, sHwI, sHwL, rIwL, rLwI, bit_f, uf_ap, ↓if_pos, ↓if_neg, MC_o c, MC_t c, MC_0 c, MC_2 c, MC_n c, MC_l c, MC_w c, MC_wk c, rIw, rIw_ne, ni_le, ni_lt, ni_eq, ni_add, ni_mul, lni_le, lni_lt, nil_le, nil_lt, lni_eq, nil_eq, lni_add, nil_add, lni_mul, nil_mul, ix_ni, ix_lit, ni_ne1, ni_lt0, ↓reduceIte, Nat.reduceEqDiff, Nat.reduceMul, Nat.reduceAdd, Nat.reduceLeDiff, and_true, true_and, false_and, and_false, if_true, if_false, Nat.not_lt_zero, false_or, or_false, ft9, decide_true, o10, eq_self, b2i_0, b2i_1, b2i_ok, b2i_inj, b2i_t, b2i_f, hr]
  unfold flush
  generalize keptBy σ x = kept at hkb
  rw [itn_tail hn]
  · have z := lp_row (L := fun f i m => L_X12_flushes_10 f 49 w x kept i m) (f := flushM kept x) (N := n) (fin := fun m => some ((), m)) (P := fun i τ => WF n B τ ∧ mc τ = mc σ ∧ (∀ c, Lg σ c → Lg τ c)) ?_ ?_ c h ⟨hw, rfl, fun _ q => q⟩ (by omega)
    · obtain ⟨m', e1, e2, e3, e4⟩ := z
      exact ⟨m', e1, e2, e3⟩
    · intro f i m τ hi c h hp
      obtain ⟨p1, p2, p3⟩ := hp
      show ∃ m', L_X12_flushes_10 (f + 1) 49 w x kept (ni i) m = _ ∧ _
      rw [L_X12_flushes_10]
      obtain ⟨m', e1, e2, e3⟩ := r_flush1 (K := fun v0 v1 v2 v3 v4 m => L_X12_flushes_10 f v0 v1 v2 v3 (v4 + 1) m) (a := i) (x := x) (kept := kept) c h (by omega) p1.2.1.1 (by rw [p2]; exact hkb) (fun e => p3 i (hl i (by omega) e))
      have q := WF_flushM (a := i) (x := x) (kept := kept) p1 (by omega) (by rw [p2]; exact hkb) (fun e => ⟨hi, p3 i (hl i (by omega) e)⟩)
      refine ⟨m', ?_, e2, e3, q.1, q.2.1.trans p2, fun c hc => q.2.2 c (p3 c hc)⟩
      simp (disch := first | omega | exact MC_ne c | ((repeat (first | exact c | apply MC_w1)); done) | decide) only [gd_t, bd_s, oc_s, oc_n, lt9_e, jn_e, okOwI, okAwI, okTwI, lnwI, okOwL, okAwL, okTwL, lnwL, rRwI, rRwL, sHwI, sHwL, rIwL, rLwI, bit_f, uf_ap, ↓if_pos, ↓if_neg, MC_o c, MC_t c, MC_0 c, MC_2 c, MC_n c, MC_l c, MC_w c, MC_wk c, rIw, rIw_ne, ni_le, ni_lt, ni_eq, ni_add, ni_mul, lni_le, lni_lt, nil_le, nil_lt, lni_eq, nil_eq, lni_add, nil_add, lni_mul, nil_mul, ix_ni, ix_lit, ni_ne1, ni_lt0, ↓reduceIte, Nat.reduceEqDiff, Nat.reduceMul, Nat.reduceAdd, Nat.reduceLeDiff, and_true, true_and, false_and, and_false, if_true, if_false, Nat.not_lt_zero, false_or, or_false, ft9, decide_true, o10, eq_self, b2i_0, b2i_1, b2i_ok, b2i_inj, b2i_t, b2i_f, e1]
    · intro f m τ c h hp
      show L_X12_flushes_10 (f + 1) 49 w x kept (ni n) m = _
      rw [L_X12_flushes_10]
      simp (disch := first | omega | exact MC_ne c | ((repeat (first | exact c | apply MC_w1)); done) | decide) only [gd_t, bd_s, oc_s, oc_n, lt9_e, jn_e, okOwI, okAwI, okTwI, lnwI, okOwL, okAwL, okTwL, lnwL, rRwI, rRwL, sHwI, sHwL, rIwL, rLwI, bit_f, uf_ap, ↓if_pos, ↓if_neg, MC_o c, MC_t c, MC_0 c, MC_2 c, MC_n c, MC_l c, MC_w c, MC_wk c, rIw, rIw_ne, ni_le, ni_lt, ni_eq, ni_add, ni_mul, lni_le, lni_lt, nil_le, nil_lt, lni_eq, nil_eq, lni_add, nil_add, lni_mul, nil_mul, ix_ni, ix_lit, ni_ne1, ni_lt0, ↓reduceIte, Nat.reduceEqDiff, Nat.reduceMul, Nat.reduceAdd, Nat.reduceLeDiff, and_true, true_and, false_and, and_false, if_true, if_false, Nat.not_lt_zero, false_or, or_false, ft9, decide_true, o10, eq_self, b2i_0, b2i_1, b2i_ok, b2i_inj, b2i_t, b2i_f, Nat.le_refl]
  · intro k h1 h2
    unfold flushM
    rw [hb k h1]
    simp only [reduceCtorEq, if_false]
    rw [itn_id]
    intro k _ _
    unfold flush1
    rw [tb_0]
    simp
/-! sums behind a flush -/
theorem flush_sum {σ : St} {x : Int32} {a : Nat} (ha : a < 6) : gL (flush σ x) 11 a = sumBehind σ a x := by
  rw [(flush_get σ x).2 11 a, owL_11 ha, if_pos ha]
  unfold sumBehind flushM lackOf
  generalize (if tb x a then keptBy σ x &&& (gI σ 2 a ^^^ (-1 : Int32)) else 0) = lack
  have z : ∀ (d i : Nat) (τ : St), (∀ k, worth τ k = worth σ k) → gL (itn (flush1 lack a) d i τ) 11 a = itn (sbfF σ lack) d i (gL τ 11 a) := by
    intro d
    induction d with
    | zero =>
      intro i τ _
      rfl
    | succ d ih =>
      intro i τ hp
      show gL (itn (flush1 lack a) d (i + 1) (flush1 lack a i τ)) 11 a = itn (sbfF σ lack) d (i + 1) (sbfF σ lack i (gL τ 11 a))
      rw [show flush1 lack a i τ = (if tb lack i then deliver τ a i else τ) from rfl, show sbfF σ lack i (gL τ 11 a) = gL τ 11 a + (if tb lack i then worth σ i else 0) from rfl]
      cases e : tb lack i
      · simp only [reduceCtorEq, if_false]
        have e0 : gL τ 11 a + 0 = gL τ 11 a := Int64.add_zero _
        rw [e0]
        exact ih (i + 1) τ hp
      · simp only [if_true]
        have h2 : gL (deliver τ a i) 11 a = gL τ 11 a + worth σ i := by
          rw [gL_del, if_neg (by omega), if_pos ⟨rfl, rfl⟩, hp i]
        rw [ih (i + 1) (deliver τ a i) (fun k => ?_), h2]
        rw [← hp k]
        unfold worth
        rw [gI_del, if_neg (by omega), if_neg (by omega), if_neg (by omega), if_neg (by omega), gI_del, if_neg (by omega), if_neg (by omega), if_neg (by omega), if_neg (by omega)]
  exact z 30 0 σ (fun _ => rfl)
/-! the least of a set -/
theorem bel6_ni {x : Int32} (h : bel 6 x) : ∃ k, k < 64 ∧ x = ni k := by
  refine ⟨x.toBitVec.toNat, ?_, ?_⟩
  · have : x.toBitVec.toNat < 2 ^ 6 := Nat.lt_pow_two_of_testBit _ (fun i hi => h i hi)
    omega
  · apply Int32.toBitVec_inj.mp
    apply BitVec.eq_of_toNat_eq
    show _ = (BitVec.ofNat 32 x.toBitVec.toNat).toNat
    rw [BitVec.toNat_ofNat]
    have := x.toBitVec.isLt
    omega
def lst (x : Int32) : Nat := if tb x 0 then 0 else if tb x 1 then 1 else if tb x 2 then 2 else if tb x 3 then 3 else if tb x 4 then 4 else 5
theorem ntz_dec : ∀ k : Nat, k < 64 → ¬ ntzI (ni k) < 0 ∧ (k ≠ 0 → ntzI (ni k) = ni (lst (ni k))) := by decide +kernel
theorem ntz_pos {x : Int32} (h : bel 6 x) : ¬ ntzI x < 0 := by
  obtain ⟨k, hk, rfl⟩ := bel6_ni h
  exact (ntz_dec k hk).1
theorem ntz_lst {x : Int32} (h : bel 6 x) (h0 : x ≠ 0) : ntzI x = ni (lst x) := by
  obtain ⟨k, hk, rfl⟩ := bel6_ni h
  exact (ntz_dec k hk).2 (fun e => h0 (by rw [e]; rfl))
theorem lst_6 (x : Int32) : lst x < 6 := by
  unfold lst
  repeat' split
  all_goals omega
theorem lst_dec : ∀ k : Nat, k < 64 → k ≠ 0 → tb (ni k) (lst (ni k)) = true ∧ ∀ j, j < 6 → j < lst (ni k) → tb (ni k) j = false := by decide +kernel
theorem lst_tb {x : Int32} (h : bel 6 x) (h0 : x ≠ 0) : tb x (lst x) = true ∧ ∀ j, j < lst x → tb x j = false := by
  obtain ⟨k, hk, rfl⟩ := bel6_ni h
  have z := lst_dec k hk (fun e => h0 (by rw [e]; rfl))
  exact ⟨z.1, fun j hj => z.2 j (by have := lst_6 (ni k); omega) hj⟩
theorem r_least {x : Int32} {m : Mm} (h : bel 6 x) (h0 : x ≠ 0) : F_X12_least x m = some (ni (lst x), m) := by
  unfold F_X12_least
  simp only [lt9_e]
  obtain ⟨z1, z2⟩ := lst_tb h h0
  have h6 := lst_6 x
  have q : ∀ (d i fuel : Nat), i + d = lst x → d < fuel → L_X12_least_2 fuel x (ni i) m = some (ni (lst x), m) := by
    intro d
    induction d with
    | zero =>
      intro i fuel hi hf
      obtain ⟨fuel, rfl⟩ : ∃ g, fuel = g + 1 := ⟨fuel - 1, by omega⟩
      have : i = lst x := by omega
      rw [L_X12_least_2, this, hasR (by omega), bd_s, z1]
      simp [b2i]
    | succ d ih =>
      intro i fuel hi hf
      obtain ⟨fuel, rfl⟩ : ∃ g, fuel = g + 1 := ⟨fuel - 1, by omega⟩
      rw [L_X12_least_2, hasR (by omega), bd_s, z2 i (by omega)]
      simp only [b2i_f, lt9_e, if_true, nil_add]
      exact ih (i + 1) fuel (by omega) (by omega)
  exact q (lst x) 0 NF (by omega) (by unfold NF; omega)
/-! who agrees -/
def agF (σ : St) (x : Int32) (i : Nat) (a : Bool) : Bool := a && (!tb x i || decide (sumBehind σ i x = sumBehind σ (lst x) x))
theorem agree_eq {σ : St} {x : Int32} (h : bel 6 x) : wouldAgree σ x = (decide (x = 0) || itn (agF σ x) 6 0 true) := by
  by_cases h0 : x = 0
  · subst h0
    simp only [decide_true, Bool.true_or]
    unfold wouldAgree
    have z : ∀ d i q, ex9 (agrS σ 0) (fun _ => true) d i q = true := by
      intro d
      induction d with
      | zero =>
        intro i q
        rfl
      | succ d ih =>
        intro i q
        rw [ex9, agrS, tb_0]
        simp only [if_true]
        exact ih (i + 1) q
    exact z 6 0 _
  · obtain ⟨z1, z2⟩ := lst_tb h h0
    have h6 := lst_6 x
    simp only [h0, decide_false, Bool.false_or]
    have hf : ∀ d i, itn (agF σ x) d i false = false := by
      intro d
      induction d with
      | zero =>
        intro i
        rfl
      | succ d ih =>
        intro i
        show itn (agF σ x) d (i + 1) (agF σ x i false) = false
        rw [show agF σ x i false = false from rfl]
        exact ih (i + 1)
    have s2 : ∀ d i, ex9 (agrS σ x) (fun _ => true) d i (false, sumBehind σ (lst x) x) = itn (agF σ x) d i true := by
      intro d
      induction d with
      | zero =>
        intro i
        rfl
      | succ d ih =>
        intro i
        rw [ex9]
        show _ = itn (agF σ x) d (i + 1) (agF σ x i true)
        unfold agrS agF
        cases e : tb x i
        · simp only [if_true, Bool.not_false, Bool.true_or, Bool.and_true]
          exact ih (i + 1)
        · by_cases e2 : sumBehind σ i x = sumBehind σ (lst x) x
          · simp only [e2, reduceCtorEq, if_false, if_true, Bool.not_true, Bool.false_or, decide_true, Bool.and_true]
            exact ih (i + 1)
          · simp only [e2, reduceCtorEq, if_false, if_true, Bool.not_true, Bool.false_or, decide_false, Bool.and_false]
            exact (hf d (i + 1)).symm
    have s1 : ∀ d i, i + d = 6 → i ≤ lst x → ex9 (agrS σ x) (fun _ => true) d i (true, 0) = itn (agF σ x) d i true := by
      intro d
      induction d with
      | zero =>
        intro i hi hl
        omega
      | succ d ih =>
        intro i hi hl
        rw [ex9]
        show _ = itn (agF σ x) d (i + 1) (agF σ x i true)
        unfold agrS agF
        by_cases e1 : i = lst x
        · subst e1
          simp only [z1, reduceCtorEq, if_false, if_true, Bool.not_true, Bool.false_or, decide_true, Bool.and_true]
          exact s2 d (lst x + 1)
        · rw [z2 i (by omega)]
          simp only [if_true, Bool.not_false, Bool.true_or, Bool.and_true]
          exact ih (i + 1) (by omega) (by omega)
    exact s1 6 0 rfl (by omega)
