/-! L2: the reference's LAW. -/
def cdA (c : Nat) : Int32 := if c < 1000 then 0 else if c < 1004 then 1 else if c = 1004 then 7 else if c = 1005 then 8 else ni (c - 1004)
def cdB (c : Nat) : Int32 := if c < 1000 then ni c else if c < 1004 then ni (c - 1000) else 0
/-- shape: model o, law La, stack sk, known kn -/
def RLs (o La sk kn : Nat) (m : Mm) : Prop :=
  (sH m)[o]? = some (12, 37) ∧ rR m o 15 = some La ∧ rR m o 19 = some sk ∧ rR m o 20 = some kn ∧ (sH m)[La]? = some (106, 160) ∧ (∀ i, i < 160 → rR m La i = some (La + 1 + i)) ∧ (∀ i, i < 160 → (sH m)[La + 1 + i]? = some (100, 2)) ∧
  (sH m)[sk]? = some (100, 160) ∧ (sH m)[kn]? = some (100, 4) ∧ (sk ≠ kn ∧ sk ≠ o ∧ kn ≠ o ∧ La + 160 < sk ∧ La + 160 < kn)
def RLc (o La len : Nat) (cs : Nat → Nat) (m : Mm) : Prop :=
  (rI m o 13 = ni 0 ∧ len = 1 ∧ cs 0 = 1) ∨ (rI m o 13 = ni len ∧ ∀ i, i < len → rI m (La + 1 + i) 0 = cdA (cs i) ∧ rI m (La + 1 + i) 1 = cdB (cs i))
theorem RLs_fr {o La sk kn : Nat} {m m' : Mm} {A : Nat → Prop} (c : RLs o La sk kn m) (f : Fm A m m') : RLs o La sk kn m' := by
  unfold RLs
  rw [f.2.2.1, f.2.1]
  exact c
theorem RLc_fr {o La len : Nat} {cs : Nat → Nat} {m m' : Mm} {A : Nat → Prop} (c : RLc o La len cs m) (f : Fm A m m') (h1 : ¬ A o) (h2 : ∀ i, i < len → ¬ A (La + 1 + i)) : RLc o La len cs m' := by
  rcases c with ⟨c1, c2, c3⟩ | ⟨c1, c2⟩
  · exact .inl ⟨by rw [(f.1 o h1).1]; exact c1, c2, c3⟩
  · refine .inr ⟨by rw [(f.1 o h1).1]; exact c1, fun i hi => ?_⟩
    rw [(f.1 _ (h2 i hi)).1]
    exact c2 i hi
theorem less_mn (a b : Int32) (m : Mm) : F_X12_less a b m = some (mnI a b, m) := by
  unfold F_X12_less mnI
  by_cases h : b < a
  · rw [if_pos h, if_pos (Int32.le_of_lt h)]
  · rw [if_neg h]
    by_cases h2 : b ≤ a
    · rw [if_pos h2]
      have : a = b := Int32.le_antisymm (Int32.not_lt.mp h) h2
      rw [this]
    · rw [if_neg h2]
theorem more_mx (a b : Int32) (m : Mm) : F_X12_more a b m = some (mxI a b, m) := by
  unfold F_X12_more mxI
  by_cases h : a < b
  · rw [if_pos h, if_pos (Int32.le_of_lt h)]
  · rw [if_neg h]
    by_cases h2 : a ≤ b
    · rw [if_pos h2]
      have : a = b := Int32.le_antisymm h2 (Int32.not_lt.mp h)
      rw [this]
    · rw [if_neg h2]
theorem div_m1 (a : Int32) : a / (-1) = -a := Int32.toBitVec_inj.mp (by
  show a.toBitVec.sdiv (-1 : Int32).toBitVec = -a.toBitVec
  rw [show (-1 : Int32).toBitVec = -1#32 from rfl, BitVec.sdiv_neg (by decide), BitVec.sdiv_one])
theorem opR {c : Nat} {a b : Int32} {m : Mm} (h1 : 1004 ≤ c) (h2 : c ≤ 1010) : F_X12_by (cdA c) a b m = some (opv c a b, m) := by
  unfold F_X12_by opv cdA
  have e1 : (-1 : Int32) = 0 ↔ False := by decide
  have hc : c = 1004 ∨ c = 1005 ∨ c = 1006 ∨ c = 1007 ∨ c = 1008 ∨ c = 1009 ∨ c = 1010 := by omega
  rcases hc with rfl | rfl | rfl | rfl | rfl | rfl | rfl
  · simp [less_mn, bd_s]
  · simp [more_mx, bd_s]
  · simp (disch := first | omega | decide) only [nil_eq, Nat.reduceEqDiff, Nat.reduceSub, Nat.reduceLT, if_true, if_false, ↓reduceIte]
  · simp (disch := first | omega | decide) only [nil_eq, Nat.reduceEqDiff, Nat.reduceSub, Nat.reduceLT, if_true, if_false, ↓reduceIte]
  · simp (disch := first | omega | decide) only [nil_eq, Nat.reduceEqDiff, Nat.reduceSub, Nat.reduceLT, if_true, if_false, ↓reduceIte]
  · simp (disch := first | omega | decide) only [nil_eq, Nat.reduceEqDiff, Nat.reduceSub, Nat.reduceLT, if_true, if_false, ↓reduceIte]
    by_cases hb : b = 0
    · simp [hb]
    · by_cases hm : b = -1
      · rw [hm, div_m1]
        simp
      · simp [hb, hm, gd]
  · simp (disch := first | omega | decide) only [nil_eq, Nat.reduceEqDiff, Nat.reduceSub, Nat.reduceLT, if_true, if_false, ↓reduceIte]
    by_cases hb : b = 0
    · simp [hb]
    · by_cases hm : b = -1
      · rw [hm, div_m1, Int32.mul_neg, Int32.mul_one, Int32.neg_neg, Int32.sub_self]
        simp
      · simp [hb, hm, gd]
theorem r_byLawL {K : Nat → Mm → Option (Int32 × Mm)} {o La sk kn len : Nat} {cs : Nat → Nat} {e : Kn} (hw : WFl cs len) :
    ∀ (d i fuel : Nat) (m : Mm), i + d = len → d < fuel → RLs o La sk kn m → rI m o 13 = ni len → (∀ i, i < len → rI m (La + 1 + i) 0 = cdA (cs i) ∧ rI m (La + 1 + i) 1 = cdB (cs i)) →
      rI m kn 0 = e.1 → rI m kn 1 = e.2.1 → rI m kn 2 = e.2.2.1 → rI m kn 3 = e.2.2.2 →
      ∃ m', L_X12_byLaw_11 K fuel o (ni (dpt cs i)) (ni i) m = K o m' ∧ rI m' sk = (evI e cs d i (rI m sk, dpt cs i)).1 ∧ Fm (fun b => b = sk) m m' := by
  intro d
  induction d with
  | zero =>
    intro i fuel m hi hf c hl hc k0 k1 k2 k3
    obtain ⟨fuel, rfl⟩ : ∃ g, fuel = g + 1 := ⟨fuel - 1, by omega⟩
    have : i = len := by omega
    subst this
    rw [L_X12_byLaw_11]
    have h150 := hw.2.2.2
    refine ⟨m, ?_, rfl, Fm_refl _ _⟩
    simp (disch := first | omega | decide) only [gd_t, bd_s, oc_s, oc_n, lt9_e, jn_e, okOwI, okAwI, okTwI, lnwI, okOwL, okAwL, okTwL, lnwL, rRwI, rRwL, sHwI, sHwL, rIwL, rLwI, ni_le, ni_lt, ni_eq, ni_add, ni_mul, lni_le, lni_lt, nil_le, nil_lt, lni_eq, nil_eq, lni_add, nil_add, lni_mul, nil_mul, ix_ni, ix_lit, ni_ne1, ni_lt0, ↓reduceIte, Nat.reduceEqDiff, Nat.reduceMul, Nat.reduceAdd, Nat.reduceLeDiff, and_true, true_and, false_and, and_false, if_true, if_false, Nat.not_lt_zero, false_or, or_false, okO_of c.1, hl, Nat.le_refl]
  | succ d ih =>
    intro i fuel m hi hf c hl hc k0 k1 k2 k3
    obtain ⟨fuel, rfl⟩ : ∃ g, fuel = g + 1 := ⟨fuel - 1, by omega⟩
    rw [L_X12_byLaw_11]
    have h150 := hw.2.2.2
    have hd := dpt_le cs i
    have hci := (hw.1 i (by omega)).1
    obtain ⟨hA, hB⟩ := hc i (by omega)
    have hs : evI e cs (d + 1) i (rI m sk, dpt cs i) = evI e cs d (i + 1) (evS e (cs i) (rI m sk, dpt cs i)) := rfl
    rw [hs]
    obtain ⟨p1, p2, p3, p4, p5, p6, p7, p8, p9, n1, n2, n3, n4, n5⟩ := c
    have c : RLs o La sk kn m := ⟨p1, p2, p3, p4, p5, p6, p7, p8, p9, n1, n2, n3, n4, n5⟩
    have x0 : okO m o 12 = true := okO_of p1
    have x1 : okA m 106 La (ni i) = true := okA_of p5 (by omega) (by omega)
    have x2 : rR m La i = some (La + 1 + i) := p6 i (by omega)
    have x3 : okA m 100 (La + 1 + i) (0 : Int32) = true := okA_of (i := 0) (p7 i (by omega)) (by omega) (by omega)
    have x4 : okA m 100 (La + 1 + i) (1 : Int32) = true := okA_of (i := 1) (p7 i (by omega)) (by omega) (by omega)
    have x5 : ∀ j, j < 160 → okA m 100 sk (ni j) = true := fun j hj => okA_of p8 hj (by omega)
    have x6 : ∀ j, j < 4 → okA m 100 kn (ni j) = true := fun j hj => okA_of p9 hj (by omega)
    have i0 : ix (0 : Int32) = 0 := by decide
    have i1 : ix (1 : Int32) = 1 := by decide
    have go : ∀ v j, rI (wI m sk j v) o 13 = ni len ∧ (∀ i, i < len → rI (wI m sk j v) (La + 1 + i) 0 = cdA (cs i) ∧ rI (wI m sk j v) (La + 1 + i) 1 = cdB (cs i)) ∧ rI (wI m sk j v) kn = rI m kn := by
      intro v j
      refine ⟨?_, fun i hi => ?_, ?_⟩
      · rw [rIw_ne (fun h => n2 h.symm)]
        exact hl
      · rw [rIw_ne (by omega)]
        exact hc i hi
      · rw [rIw_ne (fun h => n1 h.symm)]
    by_cases hc4 : cs i < 1004
    · have h1 : evS e (cs i) (rI m sk, dpt cs i) = (uf (rI m sk) (dpt cs i) (valv (cs i) e), dpt cs (i + 1)) := by
        rw [evS, dpt, if_pos hc4, if_pos hc4]
      rw [h1, ← rIw]
      obtain ⟨g1, g2, g3⟩ := go (valv (cs i) e) (dpt cs i)
      obtain ⟨m', y1, y2, y3⟩ := ih (i + 1) fuel (wI m sk (dpt cs i) (valv (cs i) e)) (by omega) (by omega) (RLs_fr (A := fun b => b = sk) c (Fm_wI (Fm_refl _ _) rfl)) g1 g2 (by rw [g3]; exact k0) (by rw [g3]; exact k1) (by rw [g3]; exact k2) (by rw [g3]; exact k3)
      refine ⟨m', ?_, y2, Fm_trans (Fm_wI (Fm_refl _ _) rfl) y3⟩
      rw [← y1]
      have hdp : dpt cs (i + 1) = dpt cs i + 1 := by rw [dpt, if_pos hc4]
      rw [hdp]
      by_cases hc0 : cs i < 1000
      · have hA' : rI m (La + 1 + i) 0 = 0 := by rw [hA, cdA, if_pos hc0]
        have hB' : rI m (La + 1 + i) 1 = ni (cs i) := by rw [hB, cdB, if_pos hc0]
        have hv : valv (cs i) e = ni (cs i) := by
          unfold valv
          rw [if_neg (by omega), if_neg (by omega), if_neg (by omega), if_neg (by omega)]
        have l20 : ((2 : Int32) ≤ 0) = False := by decide
        simp (disch := first | omega | decide) only [gd_t, bd_s, oc_s, oc_n, lt9_e, jn_e, okOwI, okAwI, okTwI, lnwI, okOwL, okAwL, okTwL, lnwL, rRwI, rRwL, sHwI, sHwL, rIwL, rLwI, ni_le, ni_lt, ni_eq, ni_add, ni_mul, lni_le, lni_lt, nil_le, nil_lt, lni_eq, nil_eq, lni_add, nil_add, lni_mul, nil_mul, ix_ni, ix_lit, ni_ne1, ni_lt0, ↓reduceIte, Nat.reduceEqDiff, Nat.reduceMul, Nat.reduceAdd, Nat.reduceLeDiff, and_true, true_and, false_and, and_false, if_true, if_false, Nat.not_lt_zero, false_or, or_false, ↓if_pos, ↓if_neg, x0, x1, x2, x3, x4, x5, i0, i1, p2, p3, p4, hl, hA', hB', hv, l20]
      · have hA' : rI m (La + 1 + i) 0 = 1 := by rw [hA, cdA, if_neg hc0, if_pos hc4]
        have hB' : rI m (La + 1 + i) 1 = ni (cs i - 1000) := by rw [hB, cdB, if_neg hc0, if_pos hc4]
        have hv : rI m kn (cs i - 1000) = valv (cs i) e := by
          have : cs i = 1000 ∨ cs i = 1001 ∨ cs i = 1002 ∨ cs i = 1003 := by omega
          unfold valv
          rcases this with q | q | q | q
          · rw [q]; exact k0
          · rw [q]; exact k1
          · rw [q]; exact k2
          · rw [q]; exact k3
        have l20 : ((2 : Int32) ≤ 1) = False := by decide
        have l10 : ((1 : Int32) = 0) = False := by decide
        simp (disch := first | omega | decide) only [gd_t, bd_s, oc_s, oc_n, lt9_e, jn_e, okOwI, okAwI, okTwI, lnwI, okOwL, okAwL, okTwL, lnwL, rRwI, rRwL, sHwI, sHwL, rIwL, rLwI, ni_le, ni_lt, ni_eq, ni_add, ni_mul, lni_le, lni_lt, nil_le, nil_lt, lni_eq, nil_eq, lni_add, nil_add, lni_mul, nil_mul, ix_ni, ix_lit, ni_ne1, ni_lt0, ↓reduceIte, Nat.reduceEqDiff, Nat.reduceMul, Nat.reduceAdd, Nat.reduceLeDiff, and_true, true_and, false_and, and_false, if_true, if_false, Nat.not_lt_zero, false_or, or_false, ↓if_pos, ↓if_neg, x0, x1, x2, x3, x4, x5, x6, i0, i1, p2, p3, p4, hl, hA', hB', hv, l20, l10]
    · have h2 := (hw.1 i (by omega)).2 (by omega)
      have h1 : evS e (cs i) (rI m sk, dpt cs i) = (uf (rI m sk) (dpt cs i - 2) (opv (cs i) (rI m sk (dpt cs i - 2)) (rI m sk (dpt cs i - 1))), dpt cs (i + 1)) := by
        rw [evS, dpt, if_neg hc4, if_neg hc4]
      rw [h1, ← rIw]
      obtain ⟨g1, g2, g3⟩ := go (opv (cs i) (rI m sk (dpt cs i - 2)) (rI m sk (dpt cs i - 1))) (dpt cs i - 2)
      obtain ⟨m', y1, y2, y3⟩ := ih (i + 1) fuel (wI m sk (dpt cs i - 2) (opv (cs i) (rI m sk (dpt cs i - 2)) (rI m sk (dpt cs i - 1)))) (by omega) (by omega) (RLs_fr (A := fun b => b = sk) c (Fm_wI (Fm_refl _ _) rfl)) g1 g2 (by rw [g3]; exact k0) (by rw [g3]; exact k1) (by rw [g3]; exact k2) (by rw [g3]; exact k3)
      refine ⟨m', ?_, y2, Fm_trans (Fm_wI (Fm_refl _ _) rfl) y3⟩
      rw [← y1]
      have hdp : dpt cs (i + 1) = dpt cs i - 1 := by rw [dpt, if_neg hc4]
      rw [hdp]
      have z1 : ni (dpt cs i) + (-1 : Int32) = ni (dpt cs i - 1) := by
        have : (-1 : Int32) = -(ni 1) := by decide
        rw [this, ← Int32.sub_eq_add_neg, ni_sub (by omega)]
      have z2 : ni (dpt cs i - 1) - (1 : Int32) = ni (dpt cs i - 2) := by
        rw [show (1 : Int32) = ni 1 from rfl, ni_sub (by omega), Nat.sub_sub]
      have l2 : ((2 : Int32) ≤ cdA (cs i)) = True := by
        have : cs i = 1004 ∨ cs i = 1005 ∨ cs i = 1006 ∨ cs i = 1007 ∨ cs i = 1008 ∨ cs i = 1009 ∨ cs i = 1010 := by omega
        rcases this with q | q | q | q | q | q | q <;> rw [q] <;> decide
      simp (disch := first | omega | decide) only [gd_t, bd_s, oc_s, oc_n, lt9_e, jn_e, okOwI, okAwI, okTwI, lnwI, okOwL, okAwL, okTwL, lnwL, rRwI, rRwL, sHwI, sHwL, rIwL, rLwI, ni_le, ni_lt, ni_eq, ni_add, ni_mul, lni_le, lni_lt, nil_le, nil_lt, lni_eq, nil_eq, lni_add, nil_add, lni_mul, nil_mul, ix_ni, ix_lit, ni_ne1, ni_lt0, ↓reduceIte, Nat.reduceEqDiff, Nat.reduceMul, Nat.reduceAdd, Nat.reduceLeDiff, and_true, true_and, false_and, and_false, if_true, if_false, Nat.not_lt_zero, false_or, or_false, ↓if_pos, ↓if_neg, x0, x1, x2, x3, x4, x5, i0, i1, p2, p3, p4, hl, hA, z1, z2, l2, opR]
theorem clamp_eq (x : Int32) : mnI 99 (mxI 0 x) = clampI x := by
  have a0 : (0 : Int32).toInt = 0 := by decide
  have a9 : (99 : Int32).toInt = 99 := by decide
  unfold clampI mnI mxI
  repeat' split
  all_goals simp only [Int32.lt_iff_toInt_lt] at *
  all_goals first | rfl | (exfalso; omega) | (apply Int32.toInt_inj.mp; omega)
theorem r_byLaw {o La sk kn len : Nat} {cs : Nat → Nat} {e : Kn} {m : Mm} (hw : WFl cs len) (c : RLs o La sk kn m) (hc : RLc o La len cs m) (k0 : rI m kn 0 = e.1) (k1 : rI m kn 1 = e.2.1) (k2 : rI m kn 2 = e.2.2.1) (k3 : rI m kn 3 = e.2.2.2) :
    ∃ m', F_X12_byLaw o m = some (wgt cs len e, m') ∧ Fm (fun b => b = sk) m m' := by
  unfold F_X12_byLaw
  obtain ⟨p1, p2, p3, p4, p5, p6, p7, p8, p9, n1, n2, n3, n4, n5⟩ := id c
  have x0 : okO m o 12 = true := okO_of p1
  have x5 : okA m 100 sk (0 : Int32) = true := okA_of (i := 0) p8 (by omega) (by omega)
  have i0 : ix (0 : Int32) = 0 := by decide
  simp only [lt9_e, x0, gd_t, p3, oc_s, x5, i0]
  have f1 : Fm (fun b => b = sk) m (wI m sk 0 1) := Fm_wI (Fm_refl _ _) rfl
  have c1 := RLs_fr c f1
  rcases hc with ⟨h0, hl, h1⟩ | ⟨h0, h1⟩
  · refine ⟨wI m sk 0 1, ?_, f1⟩
    rw [show NF = 99999 + 1 from rfl, L_X12_byLaw_11]
    subst hl
    have hwg : wgt cs 1 e = clampI 1 := by
      show clampI ((evS e (cs 0) (fun _ => 0, 0)).1 0) = _
      rw [h1]
      rfl
    have z0 : (ni 0 ≤ (0 : Int32)) = True := by decide
    simp only [okOwI, okAwI, rRwI, x0, x5, p3, gd_t, oc_s, rIw_ne (m := wI m sk 0 1) (fun h => n2 h.symm), rIw_ne (m := m) (b := o) (a := sk) (fun h => n2 h.symm), h0, z0, if_true, i0, rIw, uf_at, more_mx, less_mn, bd_s, clamp_eq, hwg]
  · have g1 : rI (wI m sk 0 1) o 13 = ni len := by
      rw [rIw_ne (fun h => n2 h.symm)]
      exact h0
    have g2 : ∀ i, i < len → rI (wI m sk 0 1) (La + 1 + i) 0 = cdA (cs i) ∧ rI (wI m sk 0 1) (La + 1 + i) 1 = cdB (cs i) := by
      intro i hi
      have := hw.2.2.2
      rw [rIw_ne (by omega)]
      exact h1 i hi
    have g3 : rI (wI m sk 0 1) kn = rI m kn := rIw_ne (fun h => n1 h.symm)
    obtain ⟨m', y1, y2, y3⟩ := r_byLawL (K := fun v0 m => gd (okO m v0 12) (oc (rR m v0 19) none fun q27 => gd (okA m 100 q27 (0 : Int32)) (bd (F_X12_more (0 : Int32) (rI m q27 0) m) fun r28 m29 => bd (F_X12_less (99 : Int32) r28 m29) fun r30 m31 => some (r30, m31)))) (e := e) hw len 0 NF (wI m sk 0 1) (by omega) (by have := hw.2.2.2; unfold NF; omega) c1 g1 g2 (by rw [g3]; exact k0) (by rw [g3]; exact k1) (by rw [g3]; exact k2) (by rw [g3]; exact k3)
    rw [dpt, ni_0] at y1
    refine ⟨m', y1.trans ?_, Fm_trans f1 y3⟩
    have c' := RLs_fr c1 y3
    have x7 : okA m' 100 sk (0 : Int32) = true := okA_of (i := 0) c'.2.2.2.2.2.2.2.1 (by omega) (by omega)
    simp only [okO_of c'.1, gd_t, c'.2.2.1, oc_s, x7, more_mx, less_mn, bd_s, clamp_eq, y2]
    rw [dpt, ev_0 hw]
theorem r_weightBy {o La sk kn len : Nat} {cs : Nat → Nat} {e : Kn} {m : Mm} (hw : WFl cs len) (c : RLs o La sk kn m) (hc : RLc o La len cs m) :
    ∃ m', F_X12_weightBy o e.1 e.2.1 e.2.2.1 e.2.2.2 m = some (wgt cs len e, m') ∧ Fm (fun b => b = sk ∨ b = kn) m m' := by
  unfold F_X12_weightBy
  obtain ⟨p1, p2, p3, p4, p5, p6, p7, p8, p9, n1, n2, n3, n4, n5⟩ := id c
  have x0 : okO m o 12 = true := okO_of p1
  have y0 : okA m 100 kn (0 : Int32) = true := okA_of (i := 0) p9 (by omega) (by omega)
  have y1 : okA m 100 kn (1 : Int32) = true := okA_of (i := 1) p9 (by omega) (by omega)
  have y2 : okA m 100 kn (2 : Int32) = true := okA_of (i := 2) p9 (by omega) (by omega)
  have y3 : okA m 100 kn (3 : Int32) = true := okA_of (i := 3) p9 (by omega) (by omega)
  have i0 : ix (0 : Int32) = 0 := by decide
  have i1 : ix (1 : Int32) = 1 := by decide
  have i2 : ix (2 : Int32) = 2 := by decide
  have i3 : ix (3 : Int32) = 3 := by decide
  simp only [lt9_e, okOwI, okAwI, rRwI, x0, y0, y1, y2, y3, gd_t, oc_s, p4, i0, i1, i2, i3]
  have f1 : Fm (fun b => b = kn) m (wI (wI (wI (wI m kn 0 e.1) kn 1 e.2.1) kn 2 e.2.2.1) kn 3 e.2.2.2) := Fm_wI (Fm_wI (Fm_wI (Fm_wI (Fm_refl _ _) rfl) rfl) rfl) rfl
  have := hw.2.2.2
  obtain ⟨m', z1, z2⟩ := r_byLaw (e := e) hw (RLs_fr c f1) (RLc_fr hc f1 (fun h => n3 h.symm) (fun i hi h => by omega)) (by simp only [rIw, uf_ap]; simp) (by simp only [rIw, uf_ap]; simp) (by simp only [rIw, uf_ap]; simp) (by simp only [rIw, uf_ap]; simp)
  rw [z1]
  exact ⟨m', rfl, Fm_trans (Fm_mono (fun b h => .inr h) f1) (Fm_mono (fun b h => .inl h) z2)⟩
