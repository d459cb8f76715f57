/-! L2: the reference's row methods. -/
theorem bit_f (k : Nat) : ((1 : Int32) <<< (ni k &&& 31)) = bit k := rfl
/-- the model o, what is told t, a row w -/
def MC (o t w n : Nat) (lim : Int32) (m : Mm) : Prop := (sH m)[o]? = some (12, 37) ∧ rR m o 12 = some t ∧ (sH m)[t]? = some (100, 3) ∧ rI m t 0 = ni n ∧ rI m t 2 = lim ∧ (sH m)[w]? = some (100, 968) ∧ t ≠ w ∧ n ≤ 6
theorem MC_fr {o t w n : Nat} {lim : Int32} {m m' : Mm} (c : MC o t w n lim m) (f : Fm (fun b => b = w) m m') : MC o t w n lim m' := by
  unfold MC
  rw [f.2.2.1, f.2.1, (f.1 t c.2.2.2.2.2.2.1).1]
  exact c
theorem MC_w1 {o t w n j : Nat} {lim v : Int32} {m : Mm} (c : MC o t w n lim m) : MC o t w n lim (wI m w j v) := MC_fr c (Fm_wI (Fm_refl _ _) rfl)
theorem MC_ne {o t w n : Nat} {lim : Int32} {m : Mm} (c : MC o t w n lim m) : t ≠ w := c.2.2.2.2.2.2.1
theorem MC_o {o t w n : Nat} {lim : Int32} {m : Mm} (c : MC o t w n lim m) : okO m o 12 = true := okO_of c.1
theorem MC_t {o t w n : Nat} {lim : Int32} {m : Mm} (c : MC o t w n lim m) : rR m o 12 = some t := c.2.1
theorem MC_0 {o t w n : Nat} {lim : Int32} {m : Mm} (c : MC o t w n lim m) : okA m 100 t (0 : Int32) = true := okA_of (i := 0) c.2.2.1 (by omega) (by omega)
theorem MC_2 {o t w n : Nat} {lim : Int32} {m : Mm} (c : MC o t w n lim m) : okA m 100 t (2 : Int32) = true := okA_of (i := 2) c.2.2.1 (by omega) (by omega)
theorem MC_n {o t w n : Nat} {lim : Int32} {m : Mm} (c : MC o t w n lim m) : rI m t 0 = ni n := c.2.2.2.1
theorem MC_l {o t w n : Nat} {lim : Int32} {m : Mm} (c : MC o t w n lim m) : rI m t 2 = lim := c.2.2.2.2.1
theorem MC_w {o t w n : Nat} {lim : Int32} {m : Mm} (c : MC o t w n lim m) {i : Nat} (h : i < 968) : okA m 100 w (ni i) = true := okA_of c.2.2.2.2.2.1 h (by omega)
theorem MC_wk {o t w n : Nat} {lim : Int32} {m : Mm} (c : MC o t w n lim m) {i : Nat} (h : i < 968) : okA m 100 w (no_index (OfNat.ofNat i) : Int32) = true := okA_of c.2.2.2.2.2.1 h (by omega)
theorem RRa {ρ : Nat → Int32} {σ : St} (h : RR ρ σ) {i : Nat} (hi : i < 6) : ρ i = gI σ 1 i := h.1 i hi
theorem RRo {ρ : Nat → Int32} {σ : St} (h : RR ρ σ) {i : Nat} (hi : i < 6) : ρ (6 + i) = if 0 < gI σ 1 i then gI σ 7 i else -1 := h.2.1 i hi
theorem RRg {ρ : Nat → Int32} {σ : St} (h : RR ρ σ) {i : Nat} (hi : i < 6) : ρ (12 + i) = gI σ 2 i := h.2.2.1 i hi
theorem RRk {ρ : Nat → Int32} {σ : St} (h : RR ρ σ) {i : Nat} (hi : i < 6) : ρ (18 + i) = gI σ 3 i := h.2.2.2.1 i hi
theorem RRw {ρ : Nat → Int32} {σ : St} (h : RR ρ σ) {i : Nat} (hi : i < 6) (k : Nat) : tb (ρ (24 + i)) k = (decide (k < 30) && tb (gI σ 10 k) i) := h.2.2.2.2.1 i hi k
theorem RRh {ρ : Nat → Int32} {σ : St} (h : RR ρ σ) {i : Nat} (hi : i < 6) : ρ (30 + i) = gI σ 5 i := h.2.2.2.2.2.1 i hi
theorem RRl {ρ : Nat → Int32} {σ : St} (h : RR ρ σ) {a b : Nat} (ha : a < 6) (hb : b < 6) : ρ (36 + 6 * a + b) = gI σ 4 (a * 6 + b) := by
  rw [show 36 + 6 * a + b = 36 + (a * 6 + b) by omega]
  exact h.2.2.2.2.2.2.1 _ (by omega)
theorem RRv {ρ : Nat → Int32} {σ : St} (h : RR ρ σ) {i j : Nat} (hi : i < 6) (hj : j < 8) (hl : j < ix (gI σ 5 i)) : ρ (72 + 8 * i + j) = gI σ 6 (i * 8 + j) := h.2.2.2.2.2.2.2.1 i hi j hj hl
theorem RRs {ρ : Nat → Int32} {σ : St} (h : RR ρ σ) {k : Nat} (hk : k < 30) (hl : k < ix (gI σ 0 7)) : ρ (120 + k) = gI σ 8 k := h.2.2.2.2.2.2.2.2.1 k hk hl
theorem RRx {ρ : Nat → Int32} {σ : St} (h : RR ρ σ) {k : Nat} (hk : k < 30) (hl : k < ix (gI σ 0 7)) : ρ (150 + k) = gI σ 9 k := h.2.2.2.2.2.2.2.2.2.1 k hk hl
theorem RR180 {ρ : Nat → Int32} {σ : St} (h : RR ρ σ) : ρ 180 = gI σ 0 6 := h.2.2.2.2.2.2.2.2.2.2.1
theorem RR181 {ρ : Nat → Int32} {σ : St} (h : RR ρ σ) : ρ 181 = gI σ 0 0 := h.2.2.2.2.2.2.2.2.2.2.2.1
theorem RR182 {ρ : Nat → Int32} {σ : St} (h : RR ρ σ) : ρ 182 = gI σ 0 1 := h.2.2.2.2.2.2.2.2.2.2.2.2.1
theorem RR183 {ρ : Nat → Int32} {σ : St} (h : RR ρ σ) : ρ 183 = gI σ 0 2 := h.2.2.2.2.2.2.2.2.2.2.2.2.2.1
theorem RR184 {ρ : Nat → Int32} {σ : St} (h : RR ρ σ) : ρ 184 = gI σ 0 3 := h.2.2.2.2.2.2.2.2.2.2.2.2.2.2.1
theorem RR185 {ρ : Nat → Int32} {σ : St} (h : RR ρ σ) : ρ 185 = gI σ 0 4 := h.2.2.2.2.2.2.2.2.2.2.2.2.2.2.2.1
theorem RR186 {ρ : Nat → Int32} {σ : St} (h : RR ρ σ) : ρ 186 = gI σ 0 5 := h.2.2.2.2.2.2.2.2.2.2.2.2.2.2.2.2.1
theorem RR187 {ρ : Nat → Int32} {σ : St} (h : RR ρ σ) : ρ 187 = gI σ 0 7 := h.2.2.2.2.2.2.2.2.2.2.2.2.2.2.2.2.2.1
theorem RRu {ρ : Nat → Int32} {σ : St} (h : RR ρ σ) {i : Nat} (hi : i < 6) : ρ (188 + 2 * i) = hi9 (gL σ 11 i) ∧ ρ (188 + 2 * i + 1) = lo9 (gL σ 11 i) := h.2.2.2.2.2.2.2.2.2.2.2.2.2.2.2.2.2.2.1 i hi
theorem RRe {ρ : Nat → Int32} {σ : St} (h : RR ρ σ) {i j : Nat} (hi : i < 6) (hj : j < 64) (hl : j < ix (gI σ 7 i)) : ρ (200 + 2 * (64 * i + j)) = hi9 (gL σ 12 (i * 64 + j)) ∧ ρ (200 + 2 * (64 * i + j) + 1) = lo9 (gL σ 12 (i * 64 + j)) := h.2.2.2.2.2.2.2.2.2.2.2.2.2.2.2.2.2.2.2 i hi j hj hl
/-- the call does this with the row, and answers so -/
def UR {α : Type} (w : Nat) (m : Mm) (X : Option (α × Mm)) (r : α) (σ : St) : Prop := ∃ m', X = some (r, m') ∧ RR (rI m' w) σ ∧ Fm (fun b => b = w) m m'
theorem r_inside {o t w n a : Nat} {lim : Int32} {m : Mm} {σ : St} (c : MC o t w n lim m) (h : RR (rI m w) σ) (ha : a < 32) : F_X12_isInside w (ni a) m = some (b2i (stands σ a), m) := by
  unfold F_X12_isInside
  simp (disch := first | omega | exact MC_ne c | ((repeat (first | exact c | apply MC_w1)); done) | decide) only [gd_t, bd_s, oc_s, oc_n, lt9_e, jn_e, okOwI, okAwI, okTwI, lnwI, okOwL, okAwL, okTwL, lnwL, rRwI, rRwL, sHwI, sHwL, rIwL, rLwI, bit_f, uf_ap, ↓if_pos, ↓if_neg, MC_o c, MC_t c, MC_0 c, MC_2 c, MC_n c, MC_l c, MC_w c, MC_wk c, rIw, rIw_ne, ni_le, ni_lt, ni_eq, ni_add, ni_mul, lni_le, lni_lt, nil_le, nil_lt, lni_eq, nil_eq, lni_add, nil_add, lni_mul, nil_mul, ix_ni, ix_lit, ni_ne1, ni_lt0, ↓reduceIte, Nat.reduceEqDiff, Nat.reduceMul, Nat.reduceAdd, Nat.reduceLeDiff, and_true, true_and, false_and, and_false, if_true, if_false, Nat.not_lt_zero, false_or, or_false, ft9, decide_true, o10, eq_self, b2i_0, b2i_1, b2i_ok, b2i_inj, b2i_t, b2i_f, hasR, RR184 h, RR183 h]
  unfold stands standing
  rw [tb_and]
  cases tb (gI σ 0 3) a <;> cases tb (gI σ 0 2) a <;> simp [b2i]
theorem r_reaches {x : Int32} {a b : Nat} {m : Mm} (ha : a < 32) (hb : b < 32) : F_X12_reaches x (ni a) (ni b) m = some (b2i (tb x a == tb x b), m) := by
  unfold F_X12_reaches
  simp (disch := first | omega | exact MC_ne c | ((repeat (first | exact c | apply MC_w1)); done) | decide) only [gd_t, bd_s, oc_s, oc_n, lt9_e, jn_e, okOwI, okAwI, okTwI, lnwI, okOwL, okAwL, okTwL, lnwL, rRwI, rRwL, sHwI, sHwL, rIwL, rLwI, hasR, b2i_inj]
  cases tb x a <;> cases tb x b <;> simp [b2i]
theorem s32 : ((32 : Int32).toInt64 &&& 63) = 32 := by decide
theorem s32m : ((32 : Int64).toBitVec.smod 64).toNat = 32 := by decide
theorem m32 : ∀ i : Nat, i < 64 → (4294967295 : Int64).toBitVec.getLsbD i = decide (i < 32) := by decide
theorem hl_join (x : Int64) : (((hi9 x).toInt64) <<< ((32 : Int32).toInt64 &&& 63)) ||| (((lo9 x).toInt64) &&& (4294967295 : Int64)) = x := by
  unfold hi9 lo9
  rw [s32]
  apply Int64.toBitVec_inj.mp
  apply BitVec.eq_of_getLsbD_eq
  intro i hi
  rw [Int64.toBitVec_or, Int64.toBitVec_and, BitVec.getLsbD_or, BitVec.getLsbD_and, m32 i hi, Int64.toBitVec_shiftLeft, BitVec.getLsbD_shiftLeft', s32m, Int32.toBitVec_toInt64, Int32.toBitVec_toInt64, Int64.toBitVec_toInt32, Int64.toBitVec_toInt32]
  simp only [BitVec.getLsbD_signExtend, Int64.toBitVec_shiftRight, BitVec.getLsbD_sshiftRight', s32m]
  by_cases h : i < 32
  · simp [h, hi]
  · have h1 : i - 32 < 32 := by omega
    have h2 : 32 + (i - 32) = i := by omega
    have h3 : i - 32 < 64 := by omega
    simp [h, h1, h2, h3, hi]
theorem r_wide {o t w n j : Nat} {lim : Int32} {m : Mm} (c : MC o t w n lim m) (hj : j + 1 < 968) : F_X12_wide w (ni j) m = some ((((rI m w j).toInt64) <<< ((32 : Int32).toInt64 &&& 63)) ||| (((rI m w (j + 1)).toInt64) &&& (4294967295 : Int64)), m) := by
  unfold F_X12_wide
  simp (disch := first | omega | exact MC_ne c | ((repeat (first | exact c | apply MC_w1)); done) | decide) only [gd_t, bd_s, oc_s, oc_n, lt9_e, jn_e, okOwI, okAwI, okTwI, lnwI, okOwL, okAwL, okTwL, lnwL, rRwI, rRwL, sHwI, sHwL, rIwL, rLwI, bit_f, uf_ap, ↓if_pos, ↓if_neg, MC_o c, MC_t c, MC_0 c, MC_2 c, MC_n c, MC_l c, MC_w c, MC_wk c, rIw, rIw_ne, ni_le, ni_lt, ni_eq, ni_add, ni_mul, lni_le, lni_lt, nil_le, nil_lt, lni_eq, nil_eq, lni_add, nil_add, lni_mul, nil_mul, ix_ni, ix_lit, ni_ne1, ni_lt0, ↓reduceIte, Nat.reduceEqDiff, Nat.reduceMul, Nat.reduceAdd, Nat.reduceLeDiff, and_true, true_and, false_and, and_false, if_true, if_false, Nat.not_lt_zero, false_or, or_false, ft9, decide_true, o10, eq_self, b2i_0, b2i_1, b2i_ok, b2i_inj, b2i_t, b2i_f]
theorem r_wideS {o t w n a : Nat} {lim : Int32} {m : Mm} {σ : St} (c : MC o t w n lim m) (h : RR (rI m w) σ) (ha : a < 6) : F_X12_wide w (ni (188 + 2 * a)) m = some (gL σ 11 a, m) := by
  rw [r_wide c (by omega), (RRu h ha).1, (RRu h ha).2, hl_join]
theorem r_wideE {o t w n a j : Nat} {lim : Int32} {m : Mm} {σ : St} (c : MC o t w n lim m) (h : RR (rI m w) σ) (ha : a < 6) (hj : j < 64) (hl : j < ix (gI σ 7 a)) : F_X12_wide w (ni (200 + 2 * (64 * a + j))) m = some (gL σ 12 (a * 64 + j), m) := by
  rw [r_wide c (by omega), (RRe h ha hj hl).1, (RRe h ha hj hl).2, hl_join]
theorem r_widens {o t w n j : Nat} {lim : Int32} {v : Int64} {m : Mm} (c : MC o t w n lim m) (hj : j + 1 < 968) : F_X12_widens w (ni j) v m = some ((), wI (wI m w j (hi9 v)) w (j + 1) (lo9 v)) := by
  unfold F_X12_widens
  simp (disch := first | omega | exact MC_ne c | ((repeat (first | exact c | apply MC_w1)); done) | decide) only [gd_t, bd_s, oc_s, oc_n, lt9_e, jn_e, okOwI, okAwI, okTwI, lnwI, okOwL, okAwL, okTwL, lnwL, rRwI, rRwL, sHwI, sHwL, rIwL, rLwI, bit_f, uf_ap, ↓if_pos, ↓if_neg, MC_o c, MC_t c, MC_0 c, MC_2 c, MC_n c, MC_l c, MC_w c, MC_wk c, rIw, rIw_ne, ni_le, ni_lt, ni_eq, ni_add, ni_mul, lni_le, lni_lt, nil_le, nil_lt, lni_eq, nil_eq, lni_add, nil_add, lni_mul, nil_mul, ix_ni, ix_lit, ni_ne1, ni_lt0, ↓reduceIte, Nat.reduceEqDiff, Nat.reduceMul, Nat.reduceAdd, Nat.reduceLeDiff, and_true, true_and, false_and, and_false, if_true, if_false, Nat.not_lt_zero, false_or, or_false, ft9, decide_true, o10, eq_self, b2i_0, b2i_1, b2i_ok, b2i_inj, b2i_t, b2i_f]
  rfl
/-- what waits is left -/
def Wk (w : Nat) (m m' : Mm) : Prop := ∀ j, 72 ≤ j → j < 120 → rI m' w j = rI m w j
theorem Wk_refl (w : Nat) (m : Mm) : Wk w m m := fun _ _ _ => rfl
theorem Wk_trans {w : Nat} {m m1 m2 : Mm} (h : Wk w m m1) (h' : Wk w m1 m2) : Wk w m m2 := fun j h1 h2 => (h' j h1 h2).trans (h j h1 h2)
theorem Wk_wI {w j : Nat} {v : Int32} {m m1 : Mm} (h : Wk w m m1) (hj : j < 72 ∨ 120 ≤ j) : Wk w m (wI m1 w j v) := fun k h1 h2 => by
  rw [rIw, uf_ap, if_neg (by omega)]
  exact h k h1 h2
def UW {α : Type} (w : Nat) (m : Mm) (X : Option (α × Mm)) (r : α) (σ : St) : Prop := ∃ m', X = some (r, m') ∧ RR (rI m' w) σ ∧ Fm (fun b => b = w) m m' ∧ Wk w m m'
def logS (σ : St) (a : Nat) : St := if 64 ≤ gI σ 7 a then σ else tI (tL σ 12 (a * 64 + ix (gI σ 7 a)) (gL σ 11 a)) 7 a (gI σ 7 a + 1)
theorem r_logs {o t w n a e : Nat} {lim : Int32} {m : Mm} {σ : St} (c : MC o t w n lim m) (h : RR (rI m w) σ) (ha : a < 6) (hg : 0 < gI σ 1 a) (he : e ≤ 64) (hx : gI σ 7 a = ni e) : UW w m (F_X12_logs w (ni a) m) () (logS σ a) := by
  unfold F_X12_logs UW logS
  have ho := RRo h ha
  rw [if_pos hg, hx] at ho
  by_cases h1 : 64 ≤ e
  · simp (disch := first | omega | exact MC_ne c | ((repeat (first | exact c | apply MC_w1)); done) | decide) only [gd_t, bd_s, oc_s, oc_n, lt9_e, jn_e, okOwI, okAwI, okTwI, lnwI, okOwL, okAwL, okTwL, lnwL, rRwI, rRwL, sHwI, sHwL, rIwL, rLwI, bit_f, uf_ap, ↓if_pos, ↓if_neg, MC_o c, MC_t c, MC_0 c, MC_2 c, MC_n c, MC_l c, MC_w c, MC_wk c, rIw, rIw_ne, ni_le, ni_lt, ni_eq, ni_add, ni_mul, lni_le, lni_lt, nil_le, nil_lt, lni_eq, nil_eq, lni_add, nil_add, lni_mul, nil_mul, ix_ni, ix_lit, ni_ne1, ni_lt0, ↓reduceIte, Nat.reduceEqDiff, Nat.reduceMul, Nat.reduceAdd, Nat.reduceLeDiff, and_true, true_and, false_and, and_false, if_true, if_false, Nat.not_lt_zero, false_or, or_false, ft9, decide_true, o10, eq_self, b2i_0, b2i_1, b2i_ok, b2i_inj, b2i_t, b2i_f, ho, hx, ↓if_pos, ↓if_neg]
    exact ⟨m, rfl, h, Fm_refl _ _, Wk_refl _ _⟩
  · simp (disch := first | omega | exact MC_ne c | ((repeat (first | exact c | apply MC_w1)); done) | decide) only [gd_t, bd_s, oc_s, oc_n, lt9_e, jn_e, okOwI, okAwI, okTwI, lnwI, okOwL, okAwL, okTwL, lnwL, rRwI, rRwL, sHwI, sHwL, rIwL, rLwI, bit_f, uf_ap, ↓if_pos, ↓if_neg, MC_o c, MC_t c, MC_0 c, MC_2 c, MC_n c, MC_l c, MC_w c, MC_wk c, rIw, rIw_ne, ni_le, ni_lt, ni_eq, ni_add, ni_mul, lni_le, lni_lt, nil_le, nil_lt, lni_eq, nil_eq, lni_add, nil_add, lni_mul, nil_mul, ix_ni, ix_lit, ni_ne1, ni_lt0, ↓reduceIte, Nat.reduceEqDiff, Nat.reduceMul, Nat.reduceAdd, Nat.reduceLeDiff, and_true, true_and, false_and, and_false, if_true, if_false, Nat.not_lt_zero, false_or, or_false, ft9, decide_true, o10, eq_self, b2i_0, b2i_1, b2i_ok, b2i_inj, b2i_t, b2i_f, ho, hx, ↓if_pos, ↓if_neg, F_X12_entryOf, r_wideS c h ha, r_widens]
    refine ⟨_, rfl, ?_, (by repeat' (first | exact Fm_refl _ _ | apply Fm_wI | apply Fm_wL | rfl)), (by repeat' (first | exact Wk_refl _ _ | apply Wk_wI | omega))⟩
    simp (disch := first | omega | exact MC_ne c | ((repeat (first | exact c | apply MC_w1)); done) | decide) only [gd_t, bd_s, oc_s, oc_n, lt9_e, jn_e, okOwI, okAwI, okTwI, lnwI, okOwL, okAwL, okTwL, lnwL, rRwI, rRwL, sHwI, sHwL, rIwL, rLwI, bit_f, uf_ap, ↓if_pos, ↓if_neg, MC_o c, MC_t c, MC_0 c, MC_2 c, MC_n c, MC_l c, MC_w c, MC_wk c, rIw, rIw_ne, ni_le, ni_lt, ni_eq, ni_add, ni_mul, lni_le, lni_lt, nil_le, nil_lt, lni_eq, nil_eq, lni_add, nil_add, lni_mul, nil_mul, ix_ni, ix_lit, ni_ne1, ni_lt0, ↓reduceIte, Nat.reduceEqDiff, Nat.reduceMul, Nat.reduceAdd, Nat.reduceLeDiff, and_true, true_and, false_and, and_false, if_true, if_false, Nat.not_lt_zero, false_or, or_false, ft9, decide_true, o10, eq_self, b2i_0, b2i_1, b2i_ok, b2i_inj, b2i_t, b2i_f]
    exact RR_log h ha (by omega) hx hg
theorem RR_lor2 {ρ : Nat → Int32} {σ : St} {a b : Nat} {v : Int32} (h : RR ρ σ) (ha : a < 6) (hb : b < 6) : RR (uf ρ (36 + 6 * a + b) v) (tI σ 4 (a * 6 + b) v) := by
  rw [show 36 + 6 * a + b = 36 + (a * 6 + b) by omega]
  exact RR_lore h (by omega)
/-- entries and ages of one that is IN -/
def Lg (σ : St) (a : Nat) : Prop := 0 < gI σ 1 a ∧ ∃ e, e ≤ 64 ∧ gI σ 7 a = ni e
theorem deliver_log {σ : St} {a k : Nat} (hl : Lg σ a) : deliver σ a k = logS (tL (tI (tI (tI σ 2 a (gI σ 2 a ||| bit k)) 3 a (gI σ 3 a ||| bit k)) 4 (a * 6 + a) (gI σ 4 (a * 6 + a) ||| bit k)) 11 a (gL σ 11 a + worth σ k)) a := by
  obtain ⟨_, e, he, hx⟩ := hl
  unfold deliver logS
  simp (disch := first | omega | decide) only [ni_le, ni_lt, ni_eq, ni_add, ni_mul, lni_le, lni_lt, nil_le, nil_lt, lni_eq, nil_eq, lni_add, nil_add, lni_mul, nil_mul, ix_ni, ix_lit, ni_ne1, ni_lt0, ↓reduceIte, Nat.reduceEqDiff, Nat.reduceMul, Nat.reduceAdd, Nat.reduceLeDiff, and_true, true_and, false_and, and_false, if_true, if_false, Nat.not_lt_zero, false_or, or_false, gI_tI, gI_tL, gL_tI, gL_tL, hx, if_pos, if_neg]
theorem r_delivers {o t w n a k : Nat} {lim : Int32} {m : Mm} {σ : St} (c : MC o t w n lim m) (h : RR (rI m w) σ) (ha : a < 6) (hk : k < 30) (hm : k < ix (gI σ 0 7)) (hl : Lg σ a) : UW w m (F_X12_delivers w (ni a) (ni k) m) () (deliver σ a k) := by
  unfold F_X12_delivers
  obtain ⟨hg, e, he, hx⟩ := hl
  rw [deliver_log ⟨hg, e, he, hx⟩]
  have h1 := RR_got (v := gI σ 2 a ||| bit k) h ha
  have h2 := RR_kept (v := gI σ 3 a ||| bit k) h1 ha
  have h3 := RR_lor2 (v := gI σ 4 (a * 6 + a) ||| bit k) h2 ha ha
  simp (disch := first | omega | exact MC_ne c | ((repeat (first | exact c | apply MC_w1)); done) | decide) only [gd_t, bd_s, oc_s, oc_n, lt9_e, jn_e, okOwI, okAwI, okTwI, lnwI, okOwL, okAwL, okTwL, lnwL, rRwI, rRwL, sHwI, sHwL, rIwL, rLwI, bit_f, uf_ap, ↓if_pos, ↓if_neg, MC_o c, MC_t c, MC_0 c, MC_2 c, MC_n c, MC_l c, MC_w c, MC_wk c, rIw, rIw_ne, ni_le, ni_lt, ni_eq, ni_add, ni_mul, lni_le, lni_lt, nil_le, nil_lt, lni_eq, nil_eq, lni_add, nil_add, lni_mul, nil_mul, ix_ni, ix_lit, ni_ne1, ni_lt0, ↓reduceIte, Nat.reduceEqDiff, Nat.reduceMul, Nat.reduceAdd, Nat.reduceLeDiff, and_true, true_and, false_and, and_false, if_true, if_false, Nat.not_lt_zero, false_or, or_false, ft9, decide_true, o10, eq_self, b2i_0, b2i_1, b2i_ok, b2i_inj, b2i_t, b2i_f, RRg h, RRk h, RRl h, F_X12_knownOf]
  have c3 : MC o t w n lim (wI (wI (wI m w (12 + a) (gI σ 2 a ||| bit k)) w (18 + a) (gI σ 3 a ||| bit k)) w (36 + 6 * a + a) (gI σ 4 (a * 6 + a) ||| bit k)) := MC_w1 (MC_w1 (MC_w1 c))
  have f3 : Fm (fun b => b = w) m (wI (wI (wI m w (12 + a) (gI σ 2 a ||| bit k)) w (18 + a) (gI σ 3 a ||| bit k)) w (36 + 6 * a + a) (gI σ 4 (a * 6 + a) ||| bit k)) := (by repeat' (first | exact Fm_refl _ _ | apply Fm_wI | apply Fm_wL | rfl))
  have k3 : Wk w m (wI (wI (wI m w (12 + a) (gI σ 2 a ||| bit k)) w (18 + a) (gI σ 3 a ||| bit k)) w (36 + 6 * a + a) (gI σ 4 (a * 6 + a) ||| bit k)) := (by repeat' (first | exact Wk_refl _ _ | apply Wk_wI | omega))
  rw [← rIw, ← rIw, ← rIw] at h3
  generalize wI (wI (wI m w (12 + a) (gI σ 2 a ||| bit k)) w (18 + a) (gI σ 3 a ||| bit k)) w (36 + 6 * a + a) (gI σ 4 (a * 6 + a) ||| bit k) = M at c3 f3 k3 h3 ⊢
  have q1 : rI M w (150 + k) = gI σ 9 k := RRx h3 hk hm
  have q2 : rI M w (120 + k) = gI σ 8 k := RRs h3 hk hm
  have q3 : F_X12_wide w (ni (188 + 2 * a)) M = some (gL σ 11 a, M) := by
    have z := r_wideS c3 h3 ha
    exact z
  have c := c3
  have h4 := RR_sum (v := gL σ 11 a + worth σ k) h3 ha
  simp (disch := first | omega | exact MC_ne c | ((repeat (first | exact c | apply MC_w1)); done) | decide) only [gd_t, bd_s, oc_s, oc_n, lt9_e, jn_e, okOwI, okAwI, okTwI, lnwI, okOwL, okAwL, okTwL, lnwL, rRwI, rRwL, sHwI, sHwL, rIwL, rLwI, bit_f, uf_ap, ↓if_pos, ↓if_neg, MC_o c, MC_t c, MC_0 c, MC_2 c, MC_n c, MC_l c, MC_w c, MC_wk c, rIw, rIw_ne, ni_le, ni_lt, ni_eq, ni_add, ni_mul, lni_le, lni_lt, nil_le, nil_lt, lni_eq, nil_eq, lni_add, nil_add, lni_mul, nil_mul, ix_ni, ix_lit, ni_ne1, ni_lt0, ↓reduceIte, Nat.reduceEqDiff, Nat.reduceMul, Nat.reduceAdd, Nat.reduceLeDiff, and_true, true_and, false_and, and_false, if_true, if_false, Nat.not_lt_zero, false_or, or_false, ft9, decide_true, o10, eq_self, b2i_0, b2i_1, b2i_ok, b2i_inj, b2i_t, b2i_f, q1, q2, q3, r_widens]
  have c4 : MC o t w n lim (wI (wI M w (188 + 2 * a) (hi9 (gL σ 11 a + worth σ k))) w (188 + 2 * a + 1) (lo9 (gL σ 11 a + worth σ k))) := MC_w1 (MC_w1 c)
  rw [← rIw, ← rIw] at h4
  obtain ⟨m', e1, e2, e3⟩ := r_logs c4 h4 ha hg he hx
  unfold worth at e1
  rw [e1]
  exact ⟨m', rfl, e2, Fm_trans (Fm_trans f3 (by repeat' (first | exact Fm_refl _ _ | apply Fm_wI | apply Fm_wL | rfl))) e3.1, Wk_trans (Wk_trans k3 (by repeat' (first | exact Wk_refl _ _ | apply Wk_wI | omega))) e3.2⟩
