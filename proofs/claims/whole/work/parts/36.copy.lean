/-! L2: State.copy -/
theorem okC_full {m : Mm} {t a n : Nat} (h : (sH m)[a]? = some (t, n)) (hn : n < 2147483648) : okC m t a 0 (ni n) = true := by
  unfold okC
  rw [h]
  simp only [ni_toInt hn]
  have h0 : (0 : Int32).toInt = 0 := by decide
  rw [h0]
  simp
theorem rIcI (m : Mm) (src sp dst dp n b k : Nat) : rI (cpI m src sp dst dp n) b k = if b = dst ∧ dp ≤ k ∧ k < dp + n then rI m src (sp + (k - dp)) else rI m b k := rfl
theorem rLcL (m : Mm) (src sp dst dp n b k : Nat) : rL (cpL m src sp dst dp n) b k = if b = dst ∧ dp ≤ k ∧ k < dp + n then rL m src (sp + (k - dp)) else rL m b k := rfl
theorem rLcI (m : Mm) (src sp dst dp n : Nat) : rL (cpI m src sp dst dp n) = rL m := rfl
theorem rRcI (m : Mm) (src sp dst dp n : Nat) : rR (cpI m src sp dst dp n) = rR m := rfl
theorem rIcL (m : Mm) (src sp dst dp n : Nat) : rI (cpL m src sp dst dp n) = rI m := rfl
theorem rRcL (m : Mm) (src sp dst dp n : Nat) : rR (cpL m src sp dst dp n) = rR m := rfl
theorem okOcI (m : Mm) (src sp dst dp n b c : Nat) : okO (cpI m src sp dst dp n) b c = okO m b c := rfl
theorem okTcI (m : Mm) (src sp dst dp n b c : Nat) : okT (cpI m src sp dst dp n) b c = okT m b c := rfl
theorem lncI (m : Mm) (src sp dst dp n b : Nat) : ln (cpI m src sp dst dp n) b = ln m b := rfl
theorem okCcI (m : Mm) (src sp dst dp n t b : Nat) (p q : Int32) : okC (cpI m src sp dst dp n) t b p q = okC m t b p q := rfl
theorem okCwI (m : Mm) (a j : Nat) (v : Int32) (t b : Nat) (p q : Int32) : okC (wI m a j v) t b p q = okC m t b p q := rfl
theorem okOcL (m : Mm) (src sp dst dp n b c : Nat) : okO (cpL m src sp dst dp n) b c = okO m b c := rfl
theorem okTcL (m : Mm) (src sp dst dp n b c : Nat) : okT (cpL m src sp dst dp n) b c = okT m b c := rfl
theorem lncL (m : Mm) (src sp dst dp n b : Nat) : ln (cpL m src sp dst dp n) b = ln m b := rfl
theorem okCcL (m : Mm) (src sp dst dp n t b : Nat) (p q : Int32) : okC (cpL m src sp dst dp n) t b p q = okC m t b p q := rfl
theorem Fm_cI {A : Nat → Prop} {m m1 : Mm} {src sp dst dp n : Nat} (h : Fm A m m1) (ha : A dst) : Fm A m (cpI m1 src sp dst dp n) :=
  ⟨fun b hb => ⟨Eq.trans (funext fun k => by rw [rIcI, if_neg]; intro q; exact hb (by rw [q.1]; exact ha)) (h.1 b hb).1, (h.1 b hb).2⟩, h.2⟩
theorem Fm_cL {A : Nat → Prop} {m m1 : Mm} {src sp dst dp n : Nat} (h : Fm A m m1) (ha : A dst) : Fm A m (cpL m1 src sp dst dp n) :=
  ⟨fun b hb => ⟨(h.1 b hb).1, Eq.trans (funext fun k => by rw [rLcL, if_neg]; intro q; exact hb (by rw [q.1]; exact ha)) (h.1 b hb).2⟩, h.2⟩
theorem rIwIk (m : Mm) (a j b k : Nat) (v : Int32) : rI (wI m a j v) b k = if b = a ∧ k = j then v else rI m b k := rfl
def tA9 (σ : St) (a : Nat) (f : Nat → Int32) : St := (fun b k => if b = a then f k else σ.1 b k, σ.2)
def tB9 (σ : St) (a : Nat) (f : Nat → Int64) : St := (σ.1, fun b k => if b = a then f k else σ.2 b k)
theorem abs_cI {m : Mm} {s r a : Nat} (ha : a ≤ 12) (h0 : lnC a ≠ 8) : absC (cpI m (r + a) 0 (s + a) 0 (lnC a)) s = tA9 (absC m s) a (gI (absC m r) a) := by
  unfold absC tA9 gI
  refine Prod.ext (funext fun b => funext fun k => ?_) rfl
  show (if k < lnC b then (if s + b = s + a ∧ 0 ≤ k ∧ k < 0 + lnC a then m.1 (r + a) (0 + (k - 0)) else m.1 (s + b) k) else 0) = (if b = a then (if k < lnC a then m.1 (r + a) k else 0) else (if k < lnC b then m.1 (s + b) k else 0))
  by_cases e : b = a
  · subst e
    by_cases e2 : k < lnC b
    · simp [e2]
    · simp [e2]
  · have : ¬ (s + b = s + a) := by omega
    simp [e]
theorem abs_cL {m : Mm} {s r a : Nat} (ha : a ≤ 12) : absC (cpL m (r + a) 0 (s + a) 0 (lnD a)) s = tB9 (absC m s) a (gL (absC m r) a) := by
  unfold absC tB9 gL
  refine Prod.ext rfl (funext fun b => funext fun k => ?_)
  show (if k < lnD b then (if s + b = s + a ∧ 0 ≤ k ∧ k < 0 + lnD a then m.2.1 (r + a) (0 + (k - 0)) else m.2.1 (s + b) k) else 0) = (if b = a then (if k < lnD a then m.2.1 (r + a) k else 0) else (if k < lnD b then m.2.1 (s + b) k else 0))
  by_cases e : b = a
  · subst e
    by_cases e2 : k < lnD b
    · simp [e2]
    · simp [e2]
  · have : ¬ (s + b = s + a) := by omega
    simp [e]
def cpG (s : Nat) (m0 : Mm) (σ : St) (X : Option (Unit × Mm)) : Prop := ∃ m', X = some ((), m') ∧ absC m' s = σ ∧ Fm (reg s) m0 m'
theorem cp_w {m0 m : Mm} {s r j : Nat} {σ : St} {K : Mm → Option (Unit × Mm)} (c : CSh m s) (d : CSh m r) (hd : s + 12 < r ∨ r + 12 < s) (hj : j < 8) (f : Fm (reg s) m0 m)
    (h : ∀ m1, CSh m1 s → CSh m1 r → absC m1 r = absC m r → absC m1 s = tI (absC m s) 0 j (gI (absC m r) 0 j) → Fm (reg s) m0 m1 → cpG s m0 σ (K m1)) :
    cpG s m0 σ (gd (okO m r 7) (gd (okO m s 7) (lt9 (wI m s j (rI m r j)) K))) := by
  rw [CSh_ok c, CSh_ok d, gd_t, gd_t, lt9_e, rI_o0 r m hj]
  exact h _ (CSh_wI c) (CSh_wI d) (abs_fr (Fm_wI (Fm_refl (reg s) m) (reg_0 s)) (fun b h1 h2 h3 => by unfold reg at h3; omega)) (abs_w0 s m _ hj) (Fm_wI f (reg_0 s))
theorem cp_I {m0 m : Mm} {s r a n : Nat} {σ : St} {K : Mm → Option (Unit × Mm)} (c : CSh m s) (d : CSh m r) (hd : s + 12 < r ∨ r + 12 < s) (ha : a < 12) (hn : shC[1 + a]? = some (100, n)) (hl : lnC (1 + a) = n) (h8 : n ≠ 8) (h9 : n < 2147483648) (f : Fm (reg s) m0 m)
    (h : ∀ m1, CSh m1 s → CSh m1 r → absC m1 r = absC m r → absC m1 s = tA9 (absC m s) (1 + a) (gI (absC m r) (1 + a)) → Fm (reg s) m0 m1 → cpG s m0 σ (K m1)) :
    cpG s m0 σ (gd (okO m r 7) (oc (rR m r (8 + a)) none fun q9 => gd (okO m s 7) (oc (rR m s (8 + a)) none fun q10 => gd (okO m s 7) (oc (rR m s (8 + a)) none fun q11 => gd (okT m 100 q11) (gd (okC m 100 q9 (0 : Int32) (ln m q11) && okC m 100 q10 (0 : Int32) (ln m q11)) (lt9 (cpI m q9 (ix (0 : Int32)) q10 (ix (0 : Int32)) (ix (ln m q11))) K)))))) := by
  have x1 : (sH m)[s + (1 + a)]? = some (100, n) := (c.1 (1 + a) (by omega)).trans hn
  have x2 : (sH m)[r + (1 + a)]? = some (100, n) := (d.1 (1 + a) (by omega)).trans hn
  simp only [CSh_ok c, CSh_ok d, gd_t, lt9_e, c.2 a ha, d.2 a ha, oc_s, okT_of x1, ln_of x1, okC_full x1 h9, okC_full x2 h9, Bool.and_self, ix_ni h9]
  have e0 : ix (0 : Int32) = 0 := by decide
  rw [e0]
  subst hl
  exact h _ c d (abs_fr (Fm_cI (Fm_refl (reg s) m) (reg_a (by omega))) (fun b h1 h2 h3 => by unfold reg at h3; omega)) (abs_cI (by omega) h8) (Fm_cI f (reg_a (by omega)))
theorem cp_L {m0 m : Mm} {s r a n : Nat} {σ : St} {K : Mm → Option (Unit × Mm)} (c : CSh m s) (d : CSh m r) (hd : s + 12 < r ∨ r + 12 < s) (ha : a < 12) (hn : shC[1 + a]? = some (101, n)) (hl : lnD (1 + a) = n) (h9 : n < 2147483648) (f : Fm (reg s) m0 m)
    (h : ∀ m1, CSh m1 s → CSh m1 r → absC m1 r = absC m r → absC m1 s = tB9 (absC m s) (1 + a) (gL (absC m r) (1 + a)) → Fm (reg s) m0 m1 → cpG s m0 σ (K m1)) :
    cpG s m0 σ (gd (okO m r 7) (oc (rR m r (8 + a)) none fun q9 => gd (okO m s 7) (oc (rR m s (8 + a)) none fun q10 => gd (okO m s 7) (oc (rR m s (8 + a)) none fun q11 => gd (okT m 101 q11) (gd (okC m 101 q9 (0 : Int32) (ln m q11) && okC m 101 q10 (0 : Int32) (ln m q11)) (lt9 (cpL m q9 (ix (0 : Int32)) q10 (ix (0 : Int32)) (ix (ln m q11))) K)))))) := by
  have x1 : (sH m)[s + (1 + a)]? = some (101, n) := (c.1 (1 + a) (by omega)).trans hn
  have x2 : (sH m)[r + (1 + a)]? = some (101, n) := (d.1 (1 + a) (by omega)).trans hn
  simp only [CSh_ok c, CSh_ok d, gd_t, lt9_e, c.2 a ha, d.2 a ha, oc_s, okT_of x1, ln_of x1, okC_full x1 h9, okC_full x2 h9, Bool.and_self, ix_ni h9]
  have e0 : ix (0 : Int32) = 0 := by decide
  rw [e0]
  subst hl
  exact h _ c d (abs_fr (Fm_cL (Fm_refl (reg s) m) (reg_a (by omega))) (fun b h1 h2 h3 => by unfold reg at h3; omega)) (abs_cL (by omega)) (Fm_cL f (reg_a (by omega)))
theorem c_copy {m : Mm} {s r : Nat} (c : CSh m s) (d : CSh m r) (hd : s + 12 < r ∨ r + 12 < s) : Up s m (F_X7_copy s r m) () (absC m r) := by
  have f := Fm_refl (reg s) m
  show cpG s m (absC m r) _
  unfold F_X7_copy
  refine cp_w (j := 0) c d hd (by omega) f (fun m1 c1 d1 p1 q1 f1 => ?_)
  refine cp_w (j := 1) c1 d1 hd (by omega) f1 (fun m2 c2 d2 p2 q2 f2 => ?_)
  refine cp_w (j := 2) c2 d2 hd (by omega) f2 (fun m3 c3 d3 p3 q3 f3 => ?_)
  refine cp_w (j := 3) c3 d3 hd (by omega) f3 (fun m4 c4 d4 p4 q4 f4 => ?_)
  refine cp_w (j := 4) c4 d4 hd (by omega) f4 (fun m5 c5 d5 p5 q5 f5 => ?_)
  refine cp_w (j := 5) c5 d5 hd (by omega) f5 (fun m6 c6 d6 p6 q6 f6 => ?_)
  refine cp_w (j := 6) c6 d6 hd (by omega) f6 (fun m7 c7 d7 p7 q7 f7 => ?_)
  refine cp_w (j := 7) c7 d7 hd (by omega) f7 (fun m8 c8 d8 p8 q8 f8 => ?_)
  refine cp_I (a := 0) c8 d8 hd (by omega) rfl rfl (by decide) (by decide) f8 (fun m9 c9 d9 p9 q9 f9 => ?_)
  refine cp_I (a := 1) c9 d9 hd (by omega) rfl rfl (by decide) (by decide) f9 (fun m10 c10 d10 p10 q10 f10 => ?_)
  refine cp_I (a := 2) c10 d10 hd (by omega) rfl rfl (by decide) (by decide) f10 (fun m11 c11 d11 p11 q11 f11 => ?_)
  refine cp_I (a := 3) c11 d11 hd (by omega) rfl rfl (by decide) (by decide) f11 (fun m12 c12 d12 p12 q12 f12 => ?_)
  refine cp_I (a := 4) c12 d12 hd (by omega) rfl rfl (by decide) (by decide) f12 (fun m13 c13 d13 p13 q13 f13 => ?_)
  refine cp_I (a := 5) c13 d13 hd (by omega) rfl rfl (by decide) (by decide) f13 (fun m14 c14 d14 p14 q14 f14 => ?_)
  refine cp_I (a := 6) c14 d14 hd (by omega) rfl rfl (by decide) (by decide) f14 (fun m15 c15 d15 p15 q15 f15 => ?_)
  refine cp_I (a := 7) c15 d15 hd (by omega) rfl rfl (by decide) (by decide) f15 (fun m16 c16 d16 p16 q16 f16 => ?_)
  refine cp_I (a := 8) c16 d16 hd (by omega) rfl rfl (by decide) (by decide) f16 (fun m17 c17 d17 p17 q17 f17 => ?_)
  refine cp_I (a := 9) c17 d17 hd (by omega) rfl rfl (by decide) (by decide) f17 (fun m18 c18 d18 p18 q18 f18 => ?_)
  refine cp_L (a := 10) c18 d18 hd (by omega) rfl rfl (by decide) f18 (fun m19 c19 d19 p19 q19 f19 => ?_)
  refine cp_L (a := 11) c19 d19 hd (by omega) rfl rfl (by decide) f19 (fun m20 c20 d20 p20 q20 f20 => ?_)
  refine ⟨_, rfl, ?_, f20⟩
  simp only [q20, p20, q19, p19, q18, p18, q17, p17, q16, p16, q15, p15, q14, p14, q13, p13, q12, p12, q11, p11, q10, p10, q9, p9, q8, p8, q7, p7, q6, p6, q5, p5, q4, p4, q3, p3, q2, p2, q1, p1]
  clear p1 q1 p2 q2 p3 q3 p4 q4 p5 q5 p6 q6 p7 q7 p8 q8 p9 q9 p10 q10 p11 q11 p12 q12 p13 q13 p14 q14 p15 q15 p16 q16 p17 q17 p18 q18 p19 q19 p20 q20
  refine Prod.ext (funext fun b => funext fun k => ?_) (funext fun b => funext fun k => ?_)
  · have hb : b = 0 ∨ b = 1 ∨ b = 2 ∨ b = 3 ∨ b = 4 ∨ b = 5 ∨ b = 6 ∨ b = 7 ∨ b = 8 ∨ b = 9 ∨ b = 10 ∨ b = 11 ∨ b = 12 ∨ 12 < b := by omega
    rcases hb with rfl | rfl | rfl | rfl | rfl | rfl | rfl | rfl | rfl | rfl | rfl | rfl | rfl | hb
    · have hk : k = 0 ∨ k = 1 ∨ k = 2 ∨ k = 3 ∨ k = 4 ∨ k = 5 ∨ k = 6 ∨ k = 7 ∨ ¬ k < 8 := by omega
      rcases hk with rfl | rfl | rfl | rfl | rfl | rfl | rfl | rfl | hk
      · rfl
      · rfl
      · rfl
      · rfl
      · rfl
      · rfl
      · rfl
      · rfl
      · have n0 : ¬ k = 0 := by omega
        have n1 : ¬ k = 1 := by omega
        have n2 : ¬ k = 2 := by omega
        have n3 : ¬ k = 3 := by omega
        have n4 : ¬ k = 4 := by omega
        have n5 : ¬ k = 5 := by omega
        have n6 : ¬ k = 6 := by omega
        have n7 : ¬ k = 7 := by omega
        have l0 : lnC 0 = 8 := rfl
        simp [tB9, tA9, tI, absC, n0, n1, n2, n3, n4, n5, n6, n7, l0, hk]
    · rfl
    · rfl
    · rfl
    · rfl
    · rfl
    · rfl
    · rfl
    · rfl
    · rfl
    · rfl
    · have l0 : lnC 11 = 0 := rfl
      simp [tB9, tA9, tI, absC, l0]
    · have l0 : lnC 12 = 0 := rfl
      simp [tB9, tA9, tI, absC, l0]
    · have l0 : ¬ k < lnC b := fun q => by
        have := lnC_12 q
        omega
      have : ∀ j, j ≤ 12 → ¬ b = j := fun j hj => by omega
      simp [tB9, tA9, tI, absC, l0, this]
  · have hb : b = 11 ∨ b = 12 ∨ (¬ b = 11 ∧ ¬ b = 12) := by omega
    rcases hb with rfl | rfl | ⟨h1, h2⟩
    · rfl
    · rfl
    · have l0 : lnD b = 0 := by
        by_cases e : b ≤ 12
        · have : b = 0 ∨ b = 1 ∨ b = 2 ∨ b = 3 ∨ b = 4 ∨ b = 5 ∨ b = 6 ∨ b = 7 ∨ b = 8 ∨ b = 9 ∨ b = 10 := by omega
          rcases this with rfl | rfl | rfl | rfl | rfl | rfl | rfl | rfl | rfl | rfl | rfl <;> rfl
        · by_cases e2 : lnD b = 0
          · exact e2
          · exact absurd (lnD_12 (a := b) (j := 0) (by omega)) e
      simp [tB9, tA9, tI, absC, l0, h1, h2]
