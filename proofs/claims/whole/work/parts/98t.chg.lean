/-! L2: calls that change; feed, undo, image, restore. -/
theorem cal3 {X : Mm → Option ((Int32 ⊕ Nat) × Mm)} {Y : Mm → Option (Int32 × Mm)} {hx : Nat → Option Int32} {v : Int32} {k : Nat} {n l len : Nat} {cs : Nat → Nat} {bk : List (Nat × Nat)} {y : Nat → Nat} {t : Nat} {pl rf : Int32} {ru : Nat → Int32} {pk ik : Nat} {jk : Nat → Nat} {ct : Nat → St} {n' l' len' : Nat} {cs' : Nat → Nat} {bk' : List (Nat × Nat)} {y' : Nat → Nat} {t' : Nat} {pl' rf' : Int32} {ru' : Nat → Int32} {pk' ik' : Nat} {jk' : Nat → Nat} {ct' : Nat → St} {m : Mm} (hC : IC n l len cs bk y t pl rf ru pk ik jk ct m) (hR : IR n l len cs bk y t pl rf ru pk ik jk ct m) (p : IP n l len cs bk pk ik jk ct (1 + 201 * k)) (h1 : mN m ≤ 498 + 224 * k) (h2 : mS m ≤ 80000 + 10458 * k) (p' : IP n' l' len' cs' bk' pk' ik' jk' ct' (1 + 201 * (k + 1))) (c : ∃ m1, X m = some (.inl v, m1) ∧ IC n' l' len' cs' bk' y' t' pl' rf' ru' pk' ik' jk' ct' m1 ∧ Gc m m1) (r : ∀ m1, G m1 → IR n l len cs bk y t pl rf ru pk ik jk ct m1 → ∃ m2, Y m1 = some (v, m2) ∧ rI m2 49 0 = 0 ∧ IR n' l' len' cs' bk' y' t' pl' rf' ru' pk' ik' jk' ct' m2 ∧ Gz m1 m2) : Cl1 k m (wrI hx X) Y := by
  have g := hC.1
  obtain ⟨m1, x1, hC1, f1⟩ := c
  have hR1 : IR n l len cs bk y t pl rf ru pk ik jk ct m1 := IR_c p hR hC.2.1 f1 (fun _ q => q)
  have g1 := hC1.1
  have hR2 : IR n l len cs bk y t pl rf ru pk ik jk ct (wL m1 497 0 v.toInt64) := out_IR hR1
  have g2 : G (wL m1 497 0 v.toInt64) := G_wL g1
  obtain ⟨m3, y1, y2, y3, y4⟩ := r (wL m1 497 0 v.toInt64) g2 hR2
  have g3 := G_fr y4 g2
  refine ⟨0, wL m1 497 0 v.toInt64, v, m3, ?_, g2, y1, g3, y2, fun _ => ?_, ?_⟩
  · unfold wrI
    rw [gO0 g, gd_t, bxL x1, gK497 g1 (show 0 < 1 by omega), gd_t, lt9_e, show ix (0 : Int32) = 0 from by decide]
  · rw [(y4.1 497 (by omega)).2, rLw, uf_at]
  · exact Inv_mk (out_IC p' hC1) y3 p' (Fg_mono (e := 224 + 0) (s := 10458 + 0) (fun _ z => z) (fun _ z => z) (by omega) (by omega) (Fg_trans f1 (Fm_Fg (Fm_wL (Fm_refl _ _) (by unfold CZ; omega))))) (Fm_mono (fun b z => by omega) y4) h1 h2
theorem cal4 {α : Type} {X Y : Mm → Option (α × Mm)} {v : α} {k : Nat} {n l len : Nat} {cs : Nat → Nat} {bk : List (Nat × Nat)} {y : Nat → Nat} {t : Nat} {pl rf : Int32} {ru : Nat → Int32} {pk ik : Nat} {jk : Nat → Nat} {ct : Nat → St} {n' l' len' : Nat} {cs' : Nat → Nat} {bk' : List (Nat × Nat)} {y' : Nat → Nat} {t' : Nat} {pl' rf' : Int32} {ru' : Nat → Int32} {pk' ik' : Nat} {jk' : Nat → Nat} {ct' : Nat → St} {m : Mm} (hC : IC n l len cs bk y t pl rf ru pk ik jk ct m) (hR : IR n l len cs bk y t pl rf ru pk ik jk ct m) (p : IP n l len cs bk pk ik jk ct (1 + 201 * k)) (h1 : mN m ≤ 498 + 224 * k) (h2 : mS m ≤ 80000 + 10458 * k) (p' : IP n' l' len' cs' bk' pk' ik' jk' ct' (1 + 201 * (k + 1))) (c : ∃ m1, X m = some (v, m1) ∧ IC n' l' len' cs' bk' y' t' pl' rf' ru' pk' ik' jk' ct' m1 ∧ Gc m m1) (r : ∀ m1, G m1 → IR n l len cs bk y t pl rf ru pk ik jk ct m1 → ∃ m2, Y m1 = some (v, m2) ∧ IR n' l' len' cs' bk' y' t' pl' rf' ru' pk' ik' jk' ct' m2 ∧ Gz m1 m2) : Cl0 k m X Y := by
  obtain ⟨m1, x1, hC1, f1⟩ := c
  have hR1 : IR n l len cs bk y t pl rf ru pk ik jk ct m1 := IR_c p hR hC.2.1 f1 (fun _ q => q)
  obtain ⟨m2, y1, y2, y3⟩ := r m1 hC1.1 hR1
  exact ⟨v, m1, m2, x1, hC1.1, y1, Inv_mk hC1 y2 p' f1 (Fm_mono (fun b z => by omega) y3) h1 h2⟩
/-- States are kept -/
theorem StC_k {pk ik : Nat} {jk : Nat → Nat} {ct : Nat → St} {A : Nat → Prop} {m m' : Mm} (hp : pk ≤ 16) (hi : ik ≤ 3) (hj : ∀ j, j < ik → jk j ≤ 16) (s : Shp m) (h : StC pk ik jk ct m) (f : Fm A m m') (hA : ∀ b, A b → b < 49 ∧ ¬ reg 16 b ∧ b ≠ 42) (h13 : rI m' 0 13 = rI m 0 13) : StC pk ik jk ct m' := by
  obtain ⟨h1, h2, h3, h4⟩ := h
  refine ⟨by rw [(f.1 42 (fun z => (hA 42 z).2.2 rfl)).1]; exact h1, by rw [h13]; exact h2, fun j A' hj' hA' => ?_, fun u hu => ?_⟩
  · rw [f.2.1] at hA'
    have := (s.2.2 j A' (by omega) hA').2.2.2.2.2.2
    rw [(f.1 (A' + 14) (fun z => by have := (hA _ z).1; omega)).1]
    exact h3 j A' hj' hA'
  · have v := Val_69 hp hi hj hu
    rw [cn_e (adr_fr f.2.1 u) (fun p hp => abs_fr f (fun b b1 b2 z => ?_))]
    · exact h4 u hu
    · have z' := hA b z
      by_cases h0 : u = 0
      · subst h0
        cases hp
        exact z'.2.1 ⟨b1, b2⟩
      · have := (s.1 u p v.1 hp).2 (by omega)
        omega
theorem IC_st {n l len : Nat} {cs : Nat → Nat} {bk : List (Nat × Nat)} {y : Nat → Nat} {t : Nat} {pl rf : Int32} {ru : Nat → Int32} {pk ik : Nat} {jk : Nat → Nat} {ct : Nat → St} {n' l' len' : Nat} {cs' : Nat → Nat} {bk' : List (Nat × Nat)} {y' : Nat → Nat} {t' : Nat} {pl' rf' : Int32} {ru' : Nat → Int32} {B : Nat} {A : Nat → Prop} {m m' : Mm} (p : IP n l len cs bk pk ik jk ct B) (h : IC n l len cs bk y t pl rf ru pk ik jk ct m) (f : Fm A m m') (hA : ∀ b, A b → b < 49 ∧ ¬ reg 16 b ∧ b ≠ 42) (h13 : rI m' 0 13 = rI m 0 13) (hr : ICr n' l' len' cs' bk' y' t' pl' rf' ru' m') : IC n' l' len' cs' bk' y' t' pl' rf' ru' pk ik jk ct m' := by
  obtain ⟨g, hN, -, s, st⟩ := IC_un h
  exact IC_mk (G_fr f g) (by unfold mN; rw [f.2.2.1]; exact hN) hr (Shp_fr f s) (StC_k p.2.2.2.2.1 p.2.2.2.2.2.1 p.2.2.2.2.2.2.1 s st f hA h13)
/-- the tape -/
theorem IC_T {n l len : Nat} {cs : Nat → Nat} {bk : List (Nat × Nat)} {y : Nat → Nat} {t : Nat} {pl rf : Int32} {ru : Nat → Int32} {pk ik : Nat} {jk : Nat → Nat} {ct : Nat → St} {y' : Nat → Nat} {t' : Nat} {pl' : Int32} {B : Nat} {A : Nat → Prop} {m m' : Mm} (p : IP n l len cs bk pk ik jk ct B) (h : IC n l len cs bk y t pl rf ru pk ik jk ct m) (f : Fm A m m') (hA : ∀ b, A b → b = 1 ∨ b = 2 ∨ (8 ≤ b ∧ b ≤ 11)) (c : CTp y' t' m') (e : rI m' 1 7 = pl') : IC n l len cs bk y' t' pl' rf ru pk ik jk ct m' := by
  have hr := (IC_un h).2.2.1
  have w : ∀ b, b ≠ 1 → b ≠ 2 → ¬ (8 ≤ b ∧ b ≤ 11) → rI m' b = rI m b := fun b h1 h2 h3 => (f.1 b (fun z => by have := hA b z; omega)).1
  refine IC_st p h f (fun b z => by have := hA b z; unfold reg; omega) (by rw [w 0 (by omega) (by omega) (by omega)]) ?_
  obtain ⟨⟨a1, a2⟩, ⟨qc, qd, q1, q2, q3⟩, ⟨b1, b2, b3⟩, -, -, e2, e3⟩ := hr
  exact ⟨⟨by rw [w 3 (by omega) (by omega) (by omega)]; exact a1, by rw [w 3 (by omega) (by omega) (by omega)]; exact a2⟩, ⟨qc, qd, q1, by rw [f.2.1]; exact q2, LC_e q3 f.2.2.1 (by rw [f.2.1]) (w 4 (by omega) (by omega) (by omega)) (w qc (by omega) (by omega) (by omega))⟩, ⟨by rw [w 12 (by omega) (by omega) (by omega)]; exact b1, by rw [w 12 (by omega) (by omega) (by omega)]; exact b2, by rw [w 12 (by omega) (by omega) (by omega)]; exact b3⟩, c, e, by rw [w 0 (by omega) (by omega) (by omega)]; exact e2, fun i hi => by rw [w 48 (by omega) (by omega) (by omega)]; exact e3 i hi⟩
/-- the reference's scratch when it reads -/
def AT9 : Nat → Prop := fun b => b = 49 ∨ b = 50 ∨ b = 52 ∨ (215 ≤ b ∧ b ≤ 375) ∨ (383 ≤ b ∧ b ≤ 474) ∨ b = 496
theorem IR_T {n l len : Nat} {cs : Nat → Nat} {bk : List (Nat × Nat)} {y : Nat → Nat} {t : Nat} {pl rf : Int32} {ru : Nat → Int32} {pk ik : Nat} {jk : Nat → Nat} {ct : Nat → St} {y' : Nat → Nat} {t' : Nat} {pl' : Int32} {B : Nat} {A : Nat → Prop} {m m' : Mm} (p : IP n l len cs bk pk ik jk ct B) (h : IR n l len cs bk y t pl rf ru pk ik jk ct m) (f : Fm A m m') (hA : ∀ b, A b → AT9 b ∧ b ≠ 473) (hj : ∀ j, j = 13 ∨ j = 27 ∨ j = 28 ∨ j = 29 ∨ j = 30 → rI m' 49 j = rI m 49 j) (c : RTp y' t' m') (e : rI m' 49 3 = pl') : IR n l len cs bk y' t' pl' rf ru pk ik jk ct m' := by
  have w : ∀ b, ¬ (AT9 b ∧ b ≠ 473) → rI m' b = rI m b := fun b hb => (f.1 b (fun z => hb (hA b z))).1
  obtain ⟨⟨a1, a2⟩, b1, ⟨c1, c2⟩, -, -, e2, e3, s1, s2, s3, s4⟩ := h
  have hl := p.2.2.1.2.2.2
  have hb6 := BK_len p.2.2.2.1
  have hi3 := p.2.2.2.2.2.1
  refine ⟨⟨by rw [w 53 (by unfold AT9; omega)]; exact a1, by rw [w 53 (by unfold AT9; omega)]; exact a2⟩, ?_, ⟨fun i hi => ?_, by rw [hj 27 (by omega)]; exact c2⟩, c, e, by rw [hj 29 (by omega)]; exact e2, fun i hi => by rw [w 51 (by unfold AT9; omega)]; exact e3 i hi, by rw [hj 28 (by omega)]; exact s1, by rw [hj 30 (by omega)]; exact s2, fun j hj' => by rw [w (493 + j) (by unfold AT9; omega)]; exact s3 j hj', fun u hu => ?_⟩
  · unfold RLc
    rw [hj 13 (by omega)]
    rcases b1 with b1 | ⟨b1, b2⟩
    · exact .inl b1
    · refine .inr ⟨b1, fun i hi => ?_⟩
      rw [w (54 + 1 + i) (by unfold AT9; omega)]
      exact b2 i hi
  · rw [w (376 + 1 + i) (by unfold AT9; omega)]
    exact c1 i hi
  · have z := rc9_r p.2.2.2.2.1 hi3 hu
    rw [w (rc9 u) (by unfold AT9; omega)]
    exact s4 u hu
theorem C_feed {k : Nat} {m : Mm} {a b c d e : Int32} (hk : k ≤ 600) (h : Inv k m) : Cl0 k m (F_X11_feed 0 a b c d e) (F_X12_feed 49 a b c d e) := by
  obtain ⟨n, l, len, cs, bk, y, t, pl, rf, ru, pk, ik, jk, ct, hC, hR, p, h1, h2⟩ := h
  have p' := IP_B p (show 1 + 201 * k ≤ 1 + 201 * (k + 1) by omega) (by omega)
  have g := hC.1
  have z := c_feed (a := a) (b := b) (c := c) (d := d) (e := e) g hC.2.2.2.2.2.1
  by_cases q : t + 20 ≤ 600
  · rw [if_pos q] at z
    obtain ⟨m1, x1, x2, x3, x4⟩ := z
    refine cal4 hC hR p h1 h2 p' (v := ni (t + 20)) ⟨m1, x1, IC_T (pl' := pl) p hC x2 (fun b z => by omega) x4 (by rw [x3 7 (by omega)]; exact hC.2.2.2.2.2.2.1), Gc_m x2 (fun b z => by unfold CZ; omega)⟩ (fun m1 g1 hR1 => ?_)
    have z := r_feed (a := a) (b := b) (c := c) (d := d) (e := e) g1 hR1.2.2.2.1
    rw [if_pos q] at z
    obtain ⟨m2, y1, y2, y3, y4⟩ := z
    exact ⟨m2, y1, IR_T p hR1 y2 (fun b z => by unfold AT9; omega) (fun j hj => y3 j (by omega) (by omega)) y4 (by rw [y3 3 (by omega) (by omega)]; exact hR1.2.2.2.2.1), Fm_mono (fun b z => by omega) y2⟩
  · rw [if_neg q] at z
    refine cal4 hC hR p h1 h2 p' (v := -1) ⟨m, z, hC, Gc_refl m⟩ (fun m1 g1 hR1 => ?_)
    have z := r_feed (a := a) (b := b) (c := c) (d := d) (e := e) g1 hR1.2.2.2.1
    rw [if_neg q] at z
    exact ⟨_, z, IR_0 0 hR1, Gz_0 m1 0 0⟩
theorem C_undo {k : Nat} {m : Mm} (hk : k ≤ 600) (h : Inv k m) : Cl0 k m (F_X11_undo 0) (F_X12_undo 49) := by
  obtain ⟨n, l, len, cs, bk, y, t, pl, rf, ru, pk, ik, jk, ct, hC, hR, p, h1, h2⟩ := h
  have p' := IP_B p (show 1 + 201 * k ≤ 1 + 201 * (k + 1) by omega) (by omega)
  have zc := c_undo p hC
  have zr := fun m1 (g1 : G m1) (hR1 : IR n l len cs bk y t pl rf ru pk ik jk ct m1) => r_undo (m := m1) p g1 hR1
  cases pk with
  | zero => exact cal4 hC hR p h1 h2 p' (v := -1) ⟨m, zc.1 rfl, hC, Gc_refl m⟩ (fun m1 g1 hR1 => ⟨_, (zr m1 g1 hR1).1 rfl, IR_0 0 hR1, Gz_0 m1 0 0⟩)
  | succ j =>
    refine cal4 hC hR p h1 h2 ?_ (v := ni j) (zc.2 j rfl) (fun m1 g1 hR1 => (zr m1 g1 hR1).2 j rfl)
    refine ⟨p'.1, p'.2.1, p'.2.2.1, p'.2.2.2.1, by have := p'.2.2.2.2.1; omega, p'.2.2.2.2.2.1, p'.2.2.2.2.2.2.1, fun u hu => ?_⟩
    unfold ctU
    split
    · exact p'.2.2.2.2.2.2.2 _ (Val_p (by omega))
    · exact p'.2.2.2.2.2.2.2 u (Val_le hu (by omega))
theorem C_image {k : Nat} {m : Mm} (hk : k ≤ 600) (h : Inv k m) : Cl0 k m (F_X11_image 0) (F_X12_image 49) := by
  obtain ⟨n, l, len, cs, bk, y, t, pl, rf, ru, pk, ik, jk, ct, hC, hR, p, h1, h2⟩ := h
  have p' := IP_B p (show 1 + 201 * k ≤ 1 + 201 * (k + 1) by omega) (by omega)
  have zc := c_image p hC (by unfold K9; omega)
  have zr := fun m1 (g1 : G m1) (hR1 : IR n l len cs bk y t pl rf ru pk ik jk ct m1) => r_image (m := m1) p g1 hR1
  have hi := p'.2.2.2.2.2.1
  have hp := p'.2.2.2.2.1
  by_cases e : ik = 3
  · exact cal4 hC hR p h1 h2 p' (v := -1) ⟨m, zc.1 e, hC, Gc_refl m⟩ (fun m1 g1 hR1 => ⟨_, (zr m1 g1 hR1).1 e, IR_0 0 hR1, Gz_0 m1 0 0⟩)
  · refine cal4 hC hR p h1 h2 ?_ (v := ni (ik + 1)) (zc.2 (by omega)) (fun m1 g1 hR1 => (zr m1 g1 hR1).2 (by omega))
    refine ⟨p'.1, p'.2.1, p'.2.2.1, p'.2.2.2.1, hp, by omega, fun j hj => ?_, fun u hu => ?_⟩
    · rw [uf_ap]
      split
      · exact hp
      · exact p'.2.2.2.2.2.2.1 j (by omega)
    · unfold ctI
      rcases hu with hu | hu | ⟨u1, u2, u3⟩
      · rw [if_neg (by omega), if_neg (by omega)]
        exact p'.2.2.2.2.2.2.2 u (.inl hu)
      · rw [if_neg (by omega), if_neg (by omega)]
        exact p'.2.2.2.2.2.2.2 u (.inr (.inl hu))
      · rw [uf_ap] at u3
        by_cases e3 : (u - 18) / 17 = ik
        · rw [if_pos e3] at u3
          by_cases e4 : u = 18 + 17 * ik
          · rw [if_pos e4]
            exact p'.2.2.2.2.2.2.2 0 (Val_0 _ _ _)
          · rw [if_neg e4, if_pos (by omega)]
            exact p'.2.2.2.2.2.2.2 _ (Val_p (by omega))
        · rw [if_neg e3] at u3
          rw [if_neg (by omega), if_neg (by omega)]
          exact p'.2.2.2.2.2.2.2 u (.inr (.inr ⟨u1, by omega, u3⟩))
theorem C_restore {k : Nat} {m : Mm} (hk : k ≤ 600) (h : Inv k m) : Cl0 k m (F_X11_restore 0) (F_X12_restore 49) := by
  obtain ⟨n, l, len, cs, bk, y, t, pl, rf, ru, pk, ik, jk, ct, hC, hR, p, h1, h2⟩ := h
  have p' := IP_B p (show 1 + 201 * k ≤ 1 + 201 * (k + 1) by omega) (by omega)
  have zc := c_restore p hC (by unfold K9; omega)
  have zr := fun m1 (g1 : G m1) (hR1 : IR n l len cs bk y t pl rf ru pk ik jk ct m1) => r_restore (m := m1) p g1 hR1
  cases ik with
  | zero => exact cal4 hC hR p h1 h2 p' (v := -1) ⟨m, zc.1 rfl, hC, Gc_refl m⟩ (fun m1 g1 hR1 => ⟨_, (zr m1 g1 hR1).1 rfl, IR_0 0 hR1, Gz_0 m1 0 0⟩)
  | succ j =>
    refine cal4 hC hR p h1 h2 ?_ (v := ni j) (zc.2 j rfl) (fun m1 g1 hR1 => (zr m1 g1 hR1).2 j rfl)
    have hjk := p'.2.2.2.2.2.2.1 j (by omega)
    refine ⟨p'.1, p'.2.1, p'.2.2.1, p'.2.2.2.1, hjk, by have := p'.2.2.2.2.2.1; omega, fun z hz => p'.2.2.2.2.2.2.1 z (by omega), fun u hu => ?_⟩
    unfold ctR
    rcases hu with hu | hu | ⟨u1, u2, u3⟩
    · rw [if_pos hu]
      exact p'.2.2.2.2.2.2.2 _ (Val_i (by omega))
    · rw [if_neg (by omega), if_pos (by omega), show 19 + 17 * j + (u - 2) = 18 + 17 * j + (1 + (u - 2)) by omega]
      exact p'.2.2.2.2.2.2.2 _ (Val_q (by omega) (by omega) (by omega))
    · rw [if_neg (by omega), if_neg (by omega)]
      exact p'.2.2.2.2.2.2.2 u (.inr (.inr ⟨u1, by omega, u3⟩))
