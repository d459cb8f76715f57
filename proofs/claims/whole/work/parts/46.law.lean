/-! L2: LAWs: codes (numbers to 999, 1000 to 1003 what is known, 1004 to 1010 signs), done by a stack. -/
def opv (c : Nat) (a b : Int32) : Int32 :=
  if c = 1004 then mnI a b else if c = 1005 then mxI a b else if c = 1006 then a + b else if c = 1007 then a - b else if c = 1008 then a * b else if c = 1009 then (if b = 0 then 0 else a / b) else (if b = 0 then 0 else a - a / b * b)
/-- what is known: member, age, view, size -/
abbrev Kn : Type := Int32 × Int32 × Int32 × Int32
def valv (c : Nat) (e : Kn) : Int32 := if c = 1000 then e.1 else if c = 1001 then e.2.1 else if c = 1002 then e.2.2.1 else if c = 1003 then e.2.2.2 else ni c
def evS (e : Kn) (c : Nat) (q : (Nat → Int32) × Nat) : (Nat → Int32) × Nat :=
  if c < 1004 then (uf q.1 q.2 (valv c e), q.2 + 1) else (uf q.1 (q.2 - 2) (opv c (q.1 (q.2 - 2)) (q.1 (q.2 - 1))), q.2 - 1)
def evI (e : Kn) (cs : Nat → Nat) (d i : Nat) (q : (Nat → Int32) × Nat) : (Nat → Int32) × Nat := itn (fun i q => evS e (cs i) q) d i q
/-- the depth -/
def dpt (cs : Nat → Nat) : Nat → Nat
  | 0 => 0
  | i + 1 => if cs i < 1004 then dpt cs i + 1 else dpt cs i - 1
def WFl (cs : Nat → Nat) (len : Nat) : Prop := (∀ i, i < len → cs i ≤ 1010 ∧ (1004 ≤ cs i → 2 ≤ dpt cs i)) ∧ 1 ≤ dpt cs len ∧ 0 < len ∧ len ≤ 150
def clampI (x : Int32) : Int32 := mxI 0 (mnI 99 x)
def wgt (cs : Nat → Nat) (len : Nat) (e : Kn) : Int32 := clampI ((evI e cs len 0 (fun _ => 0, 0)).1 0)
theorem dpt_le (cs : Nat → Nat) : ∀ i, dpt cs i ≤ i := by
  intro i
  induction i with
  | zero => exact Nat.le_refl _
  | succ i ih =>
    rw [dpt]
    split <;> omega
theorem ev_ag {e : Kn} {cs : Nat → Nat} {len : Nat} (hw : ∀ i, i < len → cs i ≤ 1010 ∧ (1004 ≤ cs i → 2 ≤ dpt cs i)) :
    ∀ (d i : Nat) (f g : Nat → Int32), i + d = len → (∀ j, j < dpt cs i → f j = g j) →
      (evI e cs d i (f, dpt cs i)).2 = dpt cs len ∧ (evI e cs d i (g, dpt cs i)).2 = dpt cs len ∧ ∀ j, j < dpt cs len → (evI e cs d i (f, dpt cs i)).1 j = (evI e cs d i (g, dpt cs i)).1 j := by
  intro d
  induction d with
  | zero =>
    intro i f g hi h
    have : i = len := by omega
    subst this
    exact ⟨rfl, rfl, h⟩
  | succ d ih =>
    intro i f g hi h
    have hs : ∀ f : Nat → Int32, evI e cs (d + 1) i (f, dpt cs i) = evI e cs d (i + 1) (evS e (cs i) (f, dpt cs i)) := fun f => rfl
    rw [hs f, hs g]
    by_cases hc : cs i < 1004
    · have h1 : ∀ f : Nat → Int32, evS e (cs i) (f, dpt cs i) = (uf f (dpt cs i) (valv (cs i) e), dpt cs (i + 1)) := by
        intro f
        rw [evS, dpt, if_pos hc, if_pos hc]
      rw [h1 f, h1 g]
      refine ih (i + 1) _ _ (by omega) (fun j hj => ?_)
      rw [dpt, if_pos hc] at hj
      rw [uf_ap, uf_ap]
      by_cases e1 : j = dpt cs i
      · rw [if_pos e1, if_pos e1]
      · rw [if_neg e1, if_neg e1]
        exact h j (by omega)
    · have h2 := (hw i (by omega)).2 (by omega)
      have h1 : ∀ f : Nat → Int32, evS e (cs i) (f, dpt cs i) = (uf f (dpt cs i - 2) (opv (cs i) (f (dpt cs i - 2)) (f (dpt cs i - 1))), dpt cs (i + 1)) := by
        intro f
        rw [evS, dpt, if_neg hc, if_neg hc]
      rw [h1 f, h1 g]
      refine ih (i + 1) _ _ (by omega) (fun j hj => ?_)
      rw [dpt, if_neg hc] at hj
      rw [uf_ap, uf_ap, h (dpt cs i - 2) (by omega), h (dpt cs i - 1) (by omega)]
      by_cases e1 : j = dpt cs i - 2
      · rw [if_pos e1, if_pos e1]
      · rw [if_neg e1, if_neg e1]
        exact h j (by omega)
theorem ev_0 {e : Kn} {cs : Nat → Nat} {len : Nat} (hw : WFl cs len) (f : Nat → Int32) : clampI ((evI e cs len 0 (f, 0)).1 0) = wgt cs len e := by
  have := (ev_ag (e := e) hw.1 len 0 f (fun _ => 0) (by omega) (fun j hj => absurd hj (by rw [dpt]; omega))).2.2 0 hw.2.1
  rw [dpt] at this
  rw [this]
  rfl
/-! the class's -/
def LC (q qc qs len : Nat) (cs : Nat → Nat) (m : Mm) : Prop :=
  (sH m)[q]? = some (3, 5) ∧ rR m q 0 = some qc ∧ rR m q 2 = some qs ∧ (sH m)[qc]? = some (100, 150) ∧ (sH m)[qs]? = some (100, 150) ∧ qs ≠ qc ∧ qs ≠ q ∧ rI m q 3 = ni len ∧ ∀ i, i < len → rI m qc i = ni (cs i)
theorem LC_fr {q qc qs len : Nat} {cs : Nat → Nat} {m m' : Mm} {A : Nat → Prop} (c : LC q qc qs len cs m) (f : Fm A m m') (h1 : ¬ A q) (h2 : ¬ A qc) : LC q qc qs len cs m' := by
  unfold LC
  rw [f.2.2.1, f.2.1, (f.1 q h1).1, (f.1 qc h2).1]
  exact c
theorem opC {c : Nat} {a b : Int32} {m : Mm} (h1 : 1004 ≤ c) (h2 : c ≤ 1010) : F_X3_reckon (ni c) a b m = some (opv c a b, m) := by
  unfold F_X3_reckon opv
  have hc : c = 1004 ∨ c = 1005 ∨ c = 1006 ∨ c = 1007 ∨ c = 1008 ∨ c = 1009 ∨ c = 1010 := by omega
  rcases hc with rfl | rfl | rfl | rfl | rfl | rfl | rfl
  all_goals simp (disch := first | omega | decide) only [nil_eq, Nat.reduceEqDiff, if_true, if_false]
  · by_cases hb : b = 0
    · simp [hb]
    · simp [hb, gd]
  · by_cases hb : b = 0
    · simp [hb]
    · simp [hb, gd]
theorem LC_w {q qc qs len j : Nat} {cs : Nat → Nat} {m : Mm} {v : Int32} (c : LC q qc qs len cs m) : LC q qc qs len cs (wI m qs j v) :=
  LC_fr c (A := fun b => b = qs) (Fm_wI (Fm_refl _ _) rfl) (fun h => c.2.2.2.2.2.2.1 h.symm) (fun h => c.2.2.2.2.2.1 h.symm)
theorem c_weighL {K : Nat → Mm → Option (Int32 × Mm)} {q qc qs len : Nat} {cs : Nat → Nat} {e : Kn} (hw : WFl cs len) :
    ∀ (d i fuel : Nat) (m : Mm), i + d = len → d < fuel → LC q qc qs len cs m →
      ∃ m', L_X3_weigh_6 K fuel q e.1 e.2.1 e.2.2.1 e.2.2.2 (ni (dpt cs i)) (ni i) m = K q m' ∧ rI m' qs = (evI e cs d i (rI m qs, dpt cs i)).1 ∧ Fm (fun b => b = qs) m m' := by
  intro d
  induction d with
  | zero =>
    intro i fuel m hi hf c
    obtain ⟨fuel, rfl⟩ : ∃ g, fuel = g + 1 := ⟨fuel - 1, by omega⟩
    have : i = len := by omega
    subst this
    rw [L_X3_weigh_6]
    have h150 := hw.2.2.2
    refine ⟨m, ?_, rfl, Fm_refl _ _⟩
    simp (disch := first | omega | decide) only [gd_t, bd_s, oc_s, oc_n, lt9_e, jn_e, okOwI, okAwI, okTwI, lnwI, okOwL, okAwL, okTwL, lnwL, rRwI, rRwL, sHwI, sHwL, rIwL, rLwI, ni_le, ni_lt, ni_eq, ni_add, ni_mul, lni_le, lni_lt, nil_le, nil_lt, lni_eq, nil_eq, lni_add, nil_add, lni_mul, nil_mul, ix_ni, ix_lit, ni_ne1, ni_lt0, ↓reduceIte, Nat.reduceEqDiff, Nat.reduceMul, Nat.reduceAdd, Nat.reduceLeDiff, and_true, true_and, false_and, and_false, if_true, if_false, Nat.not_lt_zero, false_or, or_false, okO_of c.1, c.2.2.2.2.2.2.2.1, Nat.le_refl]
  | succ d ih =>
    intro i fuel m hi hf c
    obtain ⟨fuel, rfl⟩ : ∃ g, fuel = g + 1 := ⟨fuel - 1, by omega⟩
    rw [L_X3_weigh_6]
    have h150 := hw.2.2.2
    have hd := dpt_le cs i
    have hci := (hw.1 i (by omega)).1
    have hco := c.2.2.2.2.2.2.2.2 i (by omega)
    have hs : evI e cs (d + 1) i (rI m qs, dpt cs i) = evI e cs d (i + 1) (evS e (cs i) (rI m qs, dpt cs i)) := rfl
    rw [hs]
    have x0 : okO m q 3 = true := okO_of c.1
    have x1 := c.2.1
    have x2 := c.2.2.1
    have x3 : okT m 100 qc = true := okT_of c.2.2.2.1
    have x4 : ln m qc = ni 150 := ln_of c.2.2.2.1
    have x5 : okT m 100 qs = true := okT_of c.2.2.2.2.1
    have x6 : ln m qs = ni 150 := ln_of c.2.2.2.2.1
    have x7 : ∀ j, j < 150 → okA m 100 qs (ni j) = true := fun j hj => okA_of c.2.2.2.2.1 hj (by omega)
    have x8 : okA m 100 qc (ni i) = true := okA_of c.2.2.2.1 (by omega) (by omega)
    have x9 := c.2.2.2.2.2.2.2.1
    by_cases hc : cs i < 1004
    · have h1 : evS e (cs i) (rI m qs, dpt cs i) = (uf (rI m qs) (dpt cs i) (valv (cs i) e), dpt cs (i + 1)) := by
        rw [evS, dpt, if_pos hc, if_pos hc]
      rw [h1, ← rIw]
      obtain ⟨m', y1, y2, y3⟩ := ih (i + 1) fuel (wI m qs (dpt cs i) (valv (cs i) e)) (by omega) (by omega) (LC_w c)
      refine ⟨m', ?_, y2, Fm_trans (Fm_wI (Fm_refl _ _) rfl) y3⟩
      rw [← y1]
      have hdp : dpt cs (i + 1) = dpt cs i + 1 := by rw [dpt, if_pos hc]
      rw [hdp]
      unfold valv
      by_cases k0 : cs i = 1000
      · simp (disch := first | omega | decide) only [gd_t, bd_s, oc_s, oc_n, lt9_e, jn_e, okOwI, okAwI, okTwI, lnwI, okOwL, okAwL, okTwL, lnwL, rRwI, rRwL, sHwI, sHwL, rIwL, rLwI, ni_le, ni_lt, ni_eq, ni_add, ni_mul, lni_le, lni_lt, nil_le, nil_lt, lni_eq, nil_eq, lni_add, nil_add, lni_mul, nil_mul, ix_ni, ix_lit, ni_ne1, ni_lt0, ↓reduceIte, Nat.reduceEqDiff, Nat.reduceMul, Nat.reduceAdd, Nat.reduceLeDiff, and_true, true_and, false_and, and_false, if_true, if_false, Nat.not_lt_zero, false_or, or_false, ↓if_pos, ↓if_neg, x0, x1, x2, x3, x4, x5, x6, x7, x8, x9, hco, k0]
      · by_cases k1 : cs i = 1001
        · simp (disch := first | omega | decide) only [gd_t, bd_s, oc_s, oc_n, lt9_e, jn_e, okOwI, okAwI, okTwI, lnwI, okOwL, okAwL, okTwL, lnwL, rRwI, rRwL, sHwI, sHwL, rIwL, rLwI, ni_le, ni_lt, ni_eq, ni_add, ni_mul, lni_le, lni_lt, nil_le, nil_lt, lni_eq, nil_eq, lni_add, nil_add, lni_mul, nil_mul, ix_ni, ix_lit, ni_ne1, ni_lt0, ↓reduceIte, Nat.reduceEqDiff, Nat.reduceMul, Nat.reduceAdd, Nat.reduceLeDiff, and_true, true_and, false_and, and_false, if_true, if_false, Nat.not_lt_zero, false_or, or_false, ↓if_pos, ↓if_neg, x0, x1, x2, x3, x4, x5, x6, x7, x8, x9, hco, k1]
        · by_cases k2 : cs i = 1002
          · simp (disch := first | omega | decide) only [gd_t, bd_s, oc_s, oc_n, lt9_e, jn_e, okOwI, okAwI, okTwI, lnwI, okOwL, okAwL, okTwL, lnwL, rRwI, rRwL, sHwI, sHwL, rIwL, rLwI, ni_le, ni_lt, ni_eq, ni_add, ni_mul, lni_le, lni_lt, nil_le, nil_lt, lni_eq, nil_eq, lni_add, nil_add, lni_mul, nil_mul, ix_ni, ix_lit, ni_ne1, ni_lt0, ↓reduceIte, Nat.reduceEqDiff, Nat.reduceMul, Nat.reduceAdd, Nat.reduceLeDiff, and_true, true_and, false_and, and_false, if_true, if_false, Nat.not_lt_zero, false_or, or_false, ↓if_pos, ↓if_neg, x0, x1, x2, x3, x4, x5, x6, x7, x8, x9, hco, k2]
          · by_cases k3 : cs i = 1003
            · simp (disch := first | omega | decide) only [gd_t, bd_s, oc_s, oc_n, lt9_e, jn_e, okOwI, okAwI, okTwI, lnwI, okOwL, okAwL, okTwL, lnwL, rRwI, rRwL, sHwI, sHwL, rIwL, rLwI, ni_le, ni_lt, ni_eq, ni_add, ni_mul, lni_le, lni_lt, nil_le, nil_lt, lni_eq, nil_eq, lni_add, nil_add, lni_mul, nil_mul, ix_ni, ix_lit, ni_ne1, ni_lt0, ↓reduceIte, Nat.reduceEqDiff, Nat.reduceMul, Nat.reduceAdd, Nat.reduceLeDiff, and_true, true_and, false_and, and_false, if_true, if_false, Nat.not_lt_zero, false_or, or_false, ↓if_pos, ↓if_neg, x0, x1, x2, x3, x4, x5, x6, x7, x8, x9, hco, k3]
            · simp (disch := first | omega | decide) only [gd_t, bd_s, oc_s, oc_n, lt9_e, jn_e, okOwI, okAwI, okTwI, lnwI, okOwL, okAwL, okTwL, lnwL, rRwI, rRwL, sHwI, sHwL, rIwL, rLwI, ni_le, ni_lt, ni_eq, ni_add, ni_mul, lni_le, lni_lt, nil_le, nil_lt, lni_eq, nil_eq, lni_add, nil_add, lni_mul, nil_mul, ix_ni, ix_lit, ni_ne1, ni_lt0, ↓reduceIte, Nat.reduceEqDiff, Nat.reduceMul, Nat.reduceAdd, Nat.reduceLeDiff, and_true, true_and, false_and, and_false, if_true, if_false, Nat.not_lt_zero, false_or, or_false, ↓if_pos, ↓if_neg, x0, x1, x2, x3, x4, x5, x6, x7, x8, x9, hco]
    · have h2 := (hw.1 i (by omega)).2 (by omega)
      have h1 : evS e (cs i) (rI m qs, dpt cs i) = (uf (rI m qs) (dpt cs i - 2) (opv (cs i) (rI m qs (dpt cs i - 2)) (rI m qs (dpt cs i - 1))), dpt cs (i + 1)) := by
        rw [evS, dpt, if_neg hc, if_neg hc]
      rw [h1, ← rIw]
      obtain ⟨m', y1, y2, y3⟩ := ih (i + 1) fuel (wI m qs (dpt cs i - 2) (opv (cs i) (rI m qs (dpt cs i - 2)) (rI m qs (dpt cs i - 1)))) (by omega) (by omega) (LC_w c)
      refine ⟨m', ?_, y2, Fm_trans (Fm_wI (Fm_refl _ _) rfl) y3⟩
      rw [← y1]
      have hdp : dpt cs (i + 1) = dpt cs i - 1 := by rw [dpt, if_neg hc]
      rw [hdp]
      have z1 : ni (dpt cs i) + (-2 : Int32) = ni (dpt cs i - 2) := by
        have : (-2 : Int32) = -(ni 2) := by decide
        rw [this, ← Int32.sub_eq_add_neg, ni_sub h2]
      have z2 : dpt cs i - 2 + 1 = dpt cs i - 1 := by omega
      simp (disch := first | omega | decide) only [gd_t, bd_s, oc_s, oc_n, lt9_e, jn_e, okOwI, okAwI, okTwI, lnwI, okOwL, okAwL, okTwL, lnwL, rRwI, rRwL, sHwI, sHwL, rIwL, rLwI, ni_le, ni_lt, ni_eq, ni_add, ni_mul, lni_le, lni_lt, nil_le, nil_lt, lni_eq, nil_eq, lni_add, nil_add, lni_mul, nil_mul, ix_ni, ix_lit, ni_ne1, ni_lt0, ↓reduceIte, Nat.reduceEqDiff, Nat.reduceMul, Nat.reduceAdd, Nat.reduceLeDiff, and_true, true_and, false_and, and_false, if_true, if_false, Nat.not_lt_zero, false_or, or_false, ↓if_pos, ↓if_neg, x0, x1, x2, x3, x4, x5, x6, x7, x8, x9, hco, z1, z2, opC]
theorem c_weigh {q qc qs len : Nat} {cs : Nat → Nat} {e : Kn} {m : Mm} (hw : WFl cs len) (c : LC q qc qs len cs m) :
    ∃ m', F_X3_weigh q e.1 e.2.1 e.2.2.1 e.2.2.2 m = some (wgt cs len e, m') ∧ Fm (fun b => b = qs) m m' := by
  unfold F_X3_weigh
  simp only [lt9_e]
  obtain ⟨m', y1, y2, y3⟩ := c_weighL (K := fun v0 m => gd (okO m v0 3) (oc (rR m v0 2) none fun q18 => gd (okA m 100 q18 (0 : Int32)) (some ((mxI (0 : Int32) (mnI (99 : Int32) (rI m q18 (ix (0 : Int32))))), m)))) (e := e) hw len 0 NF m (by omega) (by have := hw.2.2.2; unfold NF; omega) c
  rw [dpt, ni_0] at y1
  refine ⟨m', y1.trans ?_, y3⟩
  have c' := LC_fr c y3 (fun h => c.2.2.2.2.2.2.1 h.symm) (fun h => c.2.2.2.2.2.1 h.symm)
  have x7 : okA m' 100 qs (0 : Int32) = true := okA_of (i := 0) c'.2.2.2.2.1 (by omega) (by omega)
  have x8 : ix (0 : Int32) = 0 := by decide
  simp only [okO_of c'.1, gd_t, c'.2.2.1, oc_s, x7, x8, y2]
  rw [dpt, ← ev_0 hw (rI m qs)]
  rfl
