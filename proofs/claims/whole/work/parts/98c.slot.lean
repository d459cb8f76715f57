/-! L2: where States lie. Slots: 0 now, 1 the trial, 2 + i the past's, 18 + 17 j an image's State, 19 + 17 j + i its past's. -/
def adr (m : Mm) (u : Nat) : Option Nat :=
  if u = 0 then some 16 else if u = 1 then some 29 else if u < 18 then rR m 43 (u - 2) else
  oc (rR m 44 ((u - 18) / 17)) none (fun A => if (u - 18) % 17 = 0 then some (A + 1) else rR m (A + 15) ((u - 18) % 17 - 1))
/-- an Image's cells -/
def ImS (m : Mm) (A : Nat) : Prop := (sH m)[A]? = some (2, 2) ∧ rR m A 0 = some (A + 1) ∧ rR m A 1 = some (A + 14) ∧ (sH m)[A + 14]? = some (5, 2) ∧ rR m (A + 14) 0 = some (A + 15) ∧ (sH m)[A + 15]? = some (104, 16) ∧ 498 ≤ A
def Shp (m : Mm) : Prop := (∀ u p, u < 69 → adr m u = some p → CSh m p ∧ (2 ≤ u → 498 ≤ p)) ∧ (∀ u v p, u < 69 → v < 69 → adr m u = some p → adr m v = some p → u = v) ∧ (∀ j A, j < 3 → rR m 44 j = some A → ImS m A)
theorem adr_0 (m : Mm) : adr m 0 = some 16 := rfl
theorem adr_1 (m : Mm) : adr m 1 = some 29 := rfl
theorem adr_p (m : Mm) {i : Nat} (hi : i < 16) : adr m (2 + i) = rR m 43 i := by
  unfold adr
  rw [if_neg (by omega), if_neg (by omega), if_pos (by omega), show 2 + i - 2 = i by omega]
theorem adr_i {m : Mm} {j A : Nat} (h : rR m 44 j = some A) : adr m (18 + 17 * j) = some (A + 1) := by
  unfold adr
  rw [if_neg (by omega), if_neg (by omega), if_neg (by omega), show (18 + 17 * j - 18) / 17 = j by omega, h, oc_s, if_pos (by omega)]
theorem adr_in {m : Mm} {j : Nat} (h : rR m 44 j = none) {i : Nat} (hi : i < 17) : adr m (18 + 17 * j + i) = none := by
  unfold adr
  rw [if_neg (by omega), if_neg (by omega), if_neg (by omega), show (18 + 17 * j + i - 18) / 17 = j by omega, h, oc_n]
theorem adr_q {m : Mm} {j A i : Nat} (h : rR m 44 j = some A) (hi : i < 16) : adr m (18 + 17 * j + (1 + i)) = rR m (A + 15) i := by
  unfold adr
  rw [if_neg (by omega), if_neg (by omega), if_neg (by omega), show (18 + 17 * j + (1 + i) - 18) / 17 = j by omega, h, oc_s, if_neg (by omega), show (18 + 17 * j + (1 + i) - 18) % 17 - 1 = i by omega]
theorem shC_7 : ∀ a, a ≤ 12 → shC[a]? = some (7, 20) → a = 0 := by decide
theorem shC_k : ∀ a, a ≤ 12 → ∀ k, k = (2, 2) ∨ k = (5, 2) ∨ k = (104, 16) ∨ k = (105, 3) → shC[a]? ≠ some k := by
  intro a ha k hk
  have : ∀ a, a ≤ 12 → shC[a]? ≠ some (2, 2) ∧ shC[a]? ≠ some (5, 2) ∧ shC[a]? ≠ some (104, 16) ∧ shC[a]? ≠ some (105, 3) := by decide
  have z := this a ha
  rcases hk with rfl | rfl | rfl | rfl
  · exact z.1
  · exact z.2.1
  · exact z.2.2.1
  · exact z.2.2.2
theorem CSh_far {m : Mm} {p q : Nat} (c : CSh m p) (d : CSh m q) (h : p ≠ q) : p + 12 < q ∨ q + 12 < p := by
  by_cases h1 : p < q
  · by_cases h2 : p + 12 < q
    · exact .inl h2
    · exfalso
      have x := c.1 (q - p) (by omega)
      rw [show p + (q - p) = q by omega] at x
      have y := d.1 0 (by omega)
      rw [Nat.add_zero, x] at y
      have := shC_7 (q - p) (by omega) y
      omega
  · by_cases h2 : q + 12 < p
    · exact .inr h2
    · exfalso
      have x := d.1 (p - q) (by omega)
      rw [show q + (p - q) = p by omega] at x
      have y := c.1 0 (by omega)
      rw [Nat.add_zero, x] at y
      have := shC_7 (p - q) (by omega) y
      omega
theorem CSh_nk {m : Mm} {p b : Nat} {k : Nat × Nat} (c : CSh m p) (hb : (sH m)[b]? = some k) (hk : k = (2, 2) ∨ k = (5, 2) ∨ k = (104, 16) ∨ k = (105, 3)) : ¬ reg p b := by
  intro r
  unfold reg at r
  have x := c.1 (b - p) (by omega)
  rw [show p + (b - p) = b by omega, hb] at x
  exact shC_k (b - p) (by omega) k hk x.symm
theorem CSh_in {m : Mm} {p b : Nat} (c : CSh m p) (r : reg p b) : b < mN m := by
  unfold reg at r
  have x := c.1 (b - p) (by omega)
  rw [show p + (b - p) = b by omega] at x
  have z : ∀ a, a ≤ 12 → shC[a]? ≠ none := by decide
  have y : (sH m)[b]? ≠ none := by
    rw [x]
    exact z (b - p) (by omega)
  by_cases h : b < mN m
  · exact h
  · exact absurd (List.getElem?_eq_none (by unfold mN at h; omega)) y
theorem adr_fr {m m' : Mm} (h : rR m' = rR m) (u : Nat) : adr m' u = adr m u := by
  unfold adr
  rw [h]
theorem ImS_fr {m m' : Mm} {A : Nat} (h : rR m' = rR m) (hs : sH m' = sH m) (c : ImS m A) : ImS m' A := by
  unfold ImS
  rw [h, hs]
  exact c
theorem CSh_e {m m' : Mm} {s : Nat} (h : rR m' = rR m) (hs : sH m' = sH m) (c : CSh m s) : CSh m' s := by
  unfold CSh
  rw [h, hs]
  exact c
theorem Shp_e {m m' : Mm} (h : rR m' = rR m) (hs : sH m' = sH m) (c : Shp m) : Shp m' := by
  refine ⟨fun u p hu hp => ?_, fun u v p hu hv h1 h2 => ?_, fun j A hj hA => ?_⟩
  · rw [adr_fr h] at hp
    exact ⟨CSh_e h hs (c.1 u p hu hp).1, (c.1 u p hu hp).2⟩
  · rw [adr_fr h] at h1 h2
    exact c.2.1 u v p hu hv h1 h2
  · rw [h] at hA
    exact ImS_fr h hs (c.2.2 j A hj hA)
theorem Shp_fr {A : Nat → Prop} {m m' : Mm} (f : Fm A m m') (c : Shp m) : Shp m' := Shp_e f.2.1 f.2.2.1 c
/-- which slots hold something -/
def Val (pk ik : Nat) (jk : Nat → Nat) (u : Nat) : Prop := u = 0 ∨ (2 ≤ u ∧ u < 2 + pk) ∨ (18 ≤ u ∧ (u - 18) / 17 < ik ∧ (u - 18) % 17 < 1 + jk ((u - 18) / 17))
/-- what a slot holds -/
def cn (m : Mm) (u : Nat) : Option St := (adr m u).map (absC m)
theorem cn_s {m : Mm} {u p : Nat} (h : adr m u = some p) : cn m u = some (absC m p) := by
  unfold cn
  rw [h]
  rfl
theorem cn_p {m : Mm} {u : Nat} {σ : St} (h : cn m u = some σ) : ∃ p, adr m u = some p ∧ absC m p = σ := by
  unfold cn at h
  cases e : adr m u with
  | none =>
    rw [e] at h
    cases h
  | some p =>
    rw [e] at h
    exact ⟨p, rfl, Option.some.inj h⟩
theorem cn_e {m m' : Mm} {u : Nat} (h : adr m' u = adr m u) (h2 : ∀ p, adr m u = some p → absC m' p = absC m p) : cn m' u = cn m u := by
  unfold cn
  rw [h]
  cases e : adr m u with
  | none => rfl
  | some p => exact congrArg some (h2 p e)
/-- the class's store -/
def StC (pk ik : Nat) (jk : Nat → Nat) (ct : Nat → St) (m : Mm) : Prop :=
  rI m 42 1 = ni pk ∧ rI m 0 13 = ni ik ∧ (∀ j A, j < ik → rR m 44 j = some A → rI m (A + 14) 1 = ni (jk j)) ∧ (∀ u, Val pk ik jk u → cn m u = some (ct u))
def rc9 (u : Nat) : Nat := if u = 0 then 473 else if u < 18 then 474 + u else 493 + (u - 18) / 17
def ro9 (u : Nat) : Nat := if u < 18 then 0 else 1 + 968 * ((u - 18) % 17)
/-- the reference's store -/
def StR (pk ik : Nat) (jk : Nat → Nat) (ct : Nat → St) (m : Mm) : Prop :=
  rI m 49 28 = ni pk ∧ rI m 49 30 = ni ik ∧ (∀ j, j < ik → rI m (493 + j) 0 = ni (jk j)) ∧ (∀ u, Val pk ik jk u → RR (fun k => rI m (rc9 u) (ro9 u + k)) (ct u))
def PW (n B pk ik : Nat) (jk : Nat → Nat) (ct : Nat → St) : Prop := pk ≤ 16 ∧ ik ≤ 3 ∧ (∀ j, j < ik → jk j ≤ 16) ∧ ∀ u, Val pk ik jk u → WF n B (ct u)
theorem Val_0 (pk ik : Nat) (jk : Nat → Nat) : Val pk ik jk 0 := .inl rfl
theorem Val_69 {pk ik u : Nat} {jk : Nat → Nat} (hp : pk ≤ 16) (hi : ik ≤ 3) (hj : ∀ j, j < ik → jk j ≤ 16) (h : Val pk ik jk u) : u < 69 ∧ u ≠ 1 := by
  rcases h with h | h | ⟨h1, h2, h3⟩
  · omega
  · omega
  · have := hj _ h2
    omega
theorem Val_p {pk ik i : Nat} {jk : Nat → Nat} (hi : i < pk) : Val pk ik jk (2 + i) := .inr (.inl (by omega))
theorem Val_i {pk ik j : Nat} {jk : Nat → Nat} (hj : j < ik) : Val pk ik jk (18 + 17 * j) := .inr (.inr ⟨by omega, by rw [show (18 + 17 * j - 18) / 17 = j by omega]; exact hj, by omega⟩)
theorem Val_q {pk ik j i : Nat} {jk : Nat → Nat} (hj : j < ik) (hi : i < jk j) (h16 : i < 16) : Val pk ik jk (18 + 17 * j + (1 + i)) := .inr (.inr ⟨by omega, by rw [show (18 + 17 * j + (1 + i) - 18) / 17 = j by omega]; exact hj, by rw [show (18 + 17 * j + (1 + i) - 18) / 17 = j by omega]; omega⟩)
/-- the class's: all that is kept between calls -/
def IC (n l len : Nat) (cs : Nat → Nat) (bk : List (Nat × Nat)) (y : Nat → Nat) (t : Nat) (pl rf : Int32) (ru : Nat → Int32) (pk ik : Nat) (jk : Nat → Nat) (ct : Nat → St) (m : Mm) : Prop :=
  G m ∧ 498 ≤ mN m ∧ (rI m 3 0 = ni n ∧ rI m 3 2 = ni l) ∧ (∃ qc qd, ((qc = 5 ∧ qd = 6) ∨ (qc = 6 ∧ qd = 5)) ∧ rR m 4 1 = some qd ∧ LC 4 qc 7 len cs m) ∧ (rI m 12 0 = ni bk.length ∧ rI m 12 1 = nmB bk ∧ rI m 12 2 = inB bk) ∧ CTp y t m ∧ rI m 1 7 = pl ∧ rI m 0 14 = rf ∧ (∀ i, i < 4 → rI m 48 i = ru i) ∧ Shp m ∧ StC pk ik jk ct m
/-- the reference's -/
def IR (n l len : Nat) (cs : Nat → Nat) (bk : List (Nat × Nat)) (y : Nat → Nat) (t : Nat) (pl rf : Int32) (ru : Nat → Int32) (pk ik : Nat) (jk : Nat → Nat) (ct : Nat → St) (m : Mm) : Prop :=
  (rI m 53 0 = ni n ∧ rI m 53 2 = ni l) ∧ RLc 49 54 len cs m ∧ (RLn 376 bk m ∧ rI m 49 27 = ni bk.length) ∧ RTp y t m ∧ rI m 49 3 = pl ∧ rI m 49 29 = rf ∧ (∀ i, i < 4 → rI m 51 i = ru i) ∧ StR pk ik jk ct m
def IP (n l len : Nat) (cs : Nat → Nat) (bk : List (Nat × Nat)) (pk ik : Nat) (jk : Nat → Nat) (ct : Nat → St) (B : Nat) : Prop :=
  n ≤ 6 ∧ l ≤ 30 ∧ WFl cs len ∧ BK n bk ∧ PW n B pk ik jk ct
theorem LC_e {q qc qs len : Nat} {cs : Nat → Nat} {m m' : Mm} (c : LC q qc qs len cs m) (hs : sH m' = sH m) (h0 : rR m' q = rR m q) (h1 : rI m' q = rI m q) (h2 : rI m' qc = rI m qc) : LC q qc qs len cs m' := by
  unfold LC
  rw [hs, h0, h1, h2]
  exact c
/-- the class's scratch cells -/
def SQ : Nat → Prop := fun b => b = 7 ∨ (12 ≤ b ∧ b ≤ 15) ∨ (29 ≤ b ∧ b ≤ 41) ∨ (45 ≤ b ∧ b ≤ 47)
def Qf (m m' : Mm) : Prop := Fm SQ m m' ∧ ∀ j, j < 3 → rI m' 12 j = rI m 12 j
theorem Qf_refl (m : Mm) : Qf m m := ⟨Fm_refl _ _, fun _ _ => rfl⟩
theorem Qf_trans {m m1 m2 : Mm} (h : Qf m m1) (h' : Qf m1 m2) : Qf m m2 := ⟨Fm_trans h.1 h'.1, fun j hj => (h'.2 j hj).trans (h.2 j hj)⟩
theorem Qf_of {A : Nat → Prop} {m m' : Mm} (f : Fm A m m') (h : ∀ b, A b → SQ b ∧ b ≠ 12) : Qf m m' := ⟨Fm_mono (fun b z => (h b z).1) f, fun j _ => by rw [(f.1 12 (fun z => (h 12 z).2 rfl)).1]⟩
theorem adr_SQ {m : Mm} {u p : Nat} (s : Shp m) (hu : u < 69) (h1 : u ≠ 1) (ha : adr m u = some p) : ∀ b, p ≤ b → b ≤ p + 12 → ¬ SQ b := by
  intro b hb1 hb2 hq
  unfold SQ at hq
  by_cases h0 : u = 0
  · subst h0
    cases ha
    omega
  · have := (s.1 u p hu ha).2 (by omega)
    omega
theorem StC_q {pk ik : Nat} {jk : Nat → Nat} {ct : Nat → St} {m m' : Mm} (hp : pk ≤ 16) (hi : ik ≤ 3) (hj : ∀ j, j < ik → jk j ≤ 16) (s : Shp m) (h : StC pk ik jk ct m) (f : Fm SQ m m') : StC pk ik jk ct m' := by
  obtain ⟨h1, h2, h3, h4⟩ := h
  refine ⟨by rw [(f.1 42 (by unfold SQ; omega)).1]; exact h1, by rw [(f.1 0 (by unfold SQ; omega)).1]; exact h2, fun j A hj hA => ?_, fun u hu => ?_⟩
  · rw [f.2.1] at hA
    have := (s.2.2 j A (by omega) hA).2.2.2.2.2.2
    rw [(f.1 (A + 14) (by unfold SQ; omega)).1]
    exact h3 j A hj hA
  · have v := Val_69 hp hi hj hu
    rw [cn_e (adr_fr f.2.1 u) (fun p hp => abs_fr f (adr_SQ s v.1 v.2 hp))]
    exact h4 u hu
theorem IC_q {n l len : Nat} {cs : Nat → Nat} {bk : List (Nat × Nat)} {y : Nat → Nat} {t : Nat} {pl rf : Int32} {ru : Nat → Int32} {pk ik : Nat} {jk : Nat → Nat} {ct : Nat → St} {B : Nat} {m m' : Mm} (p : IP n l len cs bk pk ik jk ct B) (h : IC n l len cs bk y t pl rf ru pk ik jk ct m) (f : Qf m m') : IC n l len cs bk y t pl rf ru pk ik jk ct m' := by
  obtain ⟨g, hN, ⟨a1, a2⟩, ⟨qc, qd, q1, q2, q3⟩, ⟨b1, b2, b3⟩, ⟨t1, t2, t3⟩, e1, e2, e3, s, st⟩ := h
  have f1 := f.1
  have w : ∀ b, ¬ SQ b → rI m' b = rI m b := fun b hb => (f1.1 b hb).1
  refine ⟨G_fr f1 g, by unfold mN; rw [f1.2.2.1]; exact hN, ⟨by rw [w 3 (by unfold SQ; omega)]; exact a1, by rw [w 3 (by unfold SQ; omega)]; exact a2⟩, ⟨qc, qd, q1, by rw [f1.2.1]; exact q2, LC_e q3 f1.2.2.1 (by rw [f1.2.1]) (w 4 (by unfold SQ; omega)) (w qc (by unfold SQ; omega))⟩, ⟨by rw [f.2 0 (by omega)]; exact b1, by rw [f.2 1 (by omega)]; exact b2, by rw [f.2 2 (by omega)]; exact b3⟩, ⟨by rw [w 1 (by unfold SQ; omega)]; exact t1, t2, fun i hi => by rw [w 2 (by unfold SQ; omega)]; exact t3 i hi⟩, by rw [w 1 (by unfold SQ; omega)]; exact e1, by rw [w 0 (by unfold SQ; omega)]; exact e2, fun i hi => by rw [w 48 (by unfold SQ; omega)]; exact e3 i hi, Shp_fr f1 s, StC_q p.2.2.2.2.1 p.2.2.2.2.2.1 p.2.2.2.2.2.2.1 s st f1⟩
/-- what the reference and the law write -/
def RZ : Nat → Prop := fun b => 49 ≤ b ∧ b ≤ 497
theorem IC_z {n l len : Nat} {cs : Nat → Nat} {bk : List (Nat × Nat)} {y : Nat → Nat} {t : Nat} {pl rf : Int32} {ru : Nat → Int32} {pk ik : Nat} {jk : Nat → Nat} {ct : Nat → St} {B : Nat} {A : Nat → Prop} {m m' : Mm} (p : IP n l len cs bk pk ik jk ct B) (h : IC n l len cs bk y t pl rf ru pk ik jk ct m) (f : Fm A m m') (hA : ∀ b, A b → RZ b) : IC n l len cs bk y t pl rf ru pk ik jk ct m' := by
  obtain ⟨g, hN, ⟨a1, a2⟩, ⟨qc, qd, q1, q2, q3⟩, ⟨b1, b2, b3⟩, ⟨t1, t2, t3⟩, e1, e2, e3, s, ⟨s1, s2, s3, s4⟩⟩ := h
  have w : ∀ b, ¬ RZ b → rI m' b = rI m b := fun b hb => (f.1 b (fun z => hb (hA b z))).1
  refine ⟨G_fr f g, by unfold mN; rw [f.2.2.1]; exact hN, ⟨by rw [w 3 (by unfold RZ; omega)]; exact a1, by rw [w 3 (by unfold RZ; omega)]; exact a2⟩, ⟨qc, qd, q1, by rw [f.2.1]; exact q2, LC_e q3 f.2.2.1 (by rw [f.2.1]) (w 4 (by unfold RZ; omega)) (w qc (by unfold RZ; omega))⟩, ⟨by rw [w 12 (by unfold RZ; omega)]; exact b1, by rw [w 12 (by unfold RZ; omega)]; exact b2, by rw [w 12 (by unfold RZ; omega)]; exact b3⟩, ⟨by rw [w 1 (by unfold RZ; omega)]; exact t1, t2, fun i hi => by rw [w 2 (by unfold RZ; omega)]; exact t3 i hi⟩, by rw [w 1 (by unfold RZ; omega)]; exact e1, by rw [w 0 (by unfold RZ; omega)]; exact e2, fun i hi => by rw [w 48 (by unfold RZ; omega)]; exact e3 i hi, Shp_fr f s, by rw [w 42 (by unfold RZ; omega)]; exact s1, by rw [w 0 (by unfold RZ; omega)]; exact s2, fun j A hj hA' => ?_, fun u hu => ?_⟩
  · rw [f.2.1] at hA'
    have := (s.2.2 j A (by have := p.2.2.2.2.2.1; omega) hA').2.2.2.2.2.2
    rw [w (A + 14) (by unfold RZ; omega)]
    exact s3 j A hj hA'
  · have v := Val_69 p.2.2.2.2.1 p.2.2.2.2.2.1 p.2.2.2.2.2.2.1 hu
    rw [cn_e (adr_fr f.2.1 u) (fun q x1 => abs_fr f (fun b z1 z2 z => ?_))]
    · exact s4 u hu
    · have z3 := hA b z
      unfold RZ at z3
      by_cases h0 : u = 0
      · subst h0
        cases x1
        omega
      · have := (s.1 u q v.1 x1).2 (by omega)
        omega
/-- the reference's frame when it only looks -/
def AQR : Nat → Prop := fun b => b = 49 ∨ b = 390 ∨ b = 391 ∨ b = 474 ∨ b = 496
def jP (j : Nat) : Prop := j = 1 ∨ j = 3 ∨ j = 13 ∨ j = 27 ∨ j = 28 ∨ j = 29 ∨ j = 30
def Qr (m m' : Mm) : Prop := Fm AQR m m' ∧ ∀ j, jP j → rI m' 49 j = rI m 49 j
theorem Qr_refl (m : Mm) : Qr m m := ⟨Fm_refl _ _, fun _ _ => rfl⟩
theorem Qr_trans {m m1 m2 : Mm} (h : Qr m m1) (h' : Qr m1 m2) : Qr m m2 := ⟨Fm_trans h.1 h'.1, fun j hj => (h'.2 j hj).trans (h.2 j hj)⟩
theorem rc9_r {pk ik u : Nat} {jk : Nat → Nat} (hp : pk ≤ 16) (hi : ik ≤ 3) (h : Val pk ik jk u) : rc9 u = 473 ∨ (476 ≤ rc9 u ∧ rc9 u ≤ 491) ∨ (493 ≤ rc9 u ∧ rc9 u ≤ 495) := by
  unfold rc9
  rcases h with h | h | ⟨h1, h2, h3⟩
  · rw [if_pos h]
    omega
  · rw [if_neg (by omega), if_pos (by omega)]
    omega
  · rw [if_neg (by omega), if_neg (by omega)]
    omega
theorem IR_w {n l len : Nat} {cs : Nat → Nat} {bk : List (Nat × Nat)} {y : Nat → Nat} {t : Nat} {pl rf : Int32} {ru : Nat → Int32} {pk ik : Nat} {jk : Nat → Nat} {ct : Nat → St} {m m' : Mm} (hp : pk ≤ 16) (hi : ik ≤ 3) (hl : len ≤ 150) (hb : bk.length ≤ 6) (h : IR n l len cs bk y t pl rf ru pk ik jk ct m) (w : ∀ b, 49 ≤ b → b ≤ 496 → ¬ AQR b → rI m' b = rI m b) (w49 : ∀ j, jP j → rI m' 49 j = rI m 49 j) : IR n l len cs bk y t pl rf ru pk ik jk ct m' := by
  obtain ⟨⟨a1, a2⟩, b1, ⟨c1, c2⟩, ⟨t1, t2, t3⟩, e1, e2, e3, s1, s2, s3, s4⟩ := h
  refine ⟨⟨by rw [w 53 (by omega) (by omega) (by unfold AQR; omega)]; exact a1, by rw [w 53 (by omega) (by omega) (by unfold AQR; omega)]; exact a2⟩, ?_, ⟨fun i hi => ?_, by rw [w49 27 (by unfold jP; omega)]; exact c2⟩, ⟨by rw [w49 1 (by unfold jP; omega)]; exact t1, t2, fun i hi => by rw [w 50 (by omega) (by omega) (by unfold AQR; omega)]; exact t3 i hi⟩, by rw [w49 3 (by unfold jP; omega)]; exact e1, by rw [w49 29 (by unfold jP; omega)]; exact e2, fun i hi => by rw [w 51 (by omega) (by omega) (by unfold AQR; omega)]; exact e3 i hi, by rw [w49 28 (by unfold jP; omega)]; exact s1, by rw [w49 30 (by unfold jP; omega)]; exact s2, fun j hj => by rw [w (493 + j) (by omega) (by omega) (by unfold AQR; omega)]; exact s3 j hj, fun u hu => ?_⟩
  · unfold RLc
    rw [w49 13 (by unfold jP; omega)]
    rcases b1 with b1 | ⟨b1, b2⟩
    · exact .inl b1
    · refine .inr ⟨b1, fun i hi => ?_⟩
      rw [w (54 + 1 + i) (by omega) (by omega) (by unfold AQR; omega)]
      exact b2 i hi
  · rw [w (376 + 1 + i) (by omega) (by omega) (by unfold AQR; omega)]
    exact c1 i hi
  · have z := rc9_r hp hi hu
    rw [w (rc9 u) (by omega) (by omega) (by unfold AQR; omega)]
    exact s4 u hu
theorem IR_q {n l len : Nat} {cs : Nat → Nat} {bk : List (Nat × Nat)} {y : Nat → Nat} {t : Nat} {pl rf : Int32} {ru : Nat → Int32} {pk ik : Nat} {jk : Nat → Nat} {ct : Nat → St} {B : Nat} {m m' : Mm} (p : IP n l len cs bk pk ik jk ct B) (h : IR n l len cs bk y t pl rf ru pk ik jk ct m) (f : Qr m m') : IR n l len cs bk y t pl rf ru pk ik jk ct m' :=
  IR_w p.2.2.2.2.1 p.2.2.2.2.2.1 p.2.2.1.2.2.2 (BK_len p.2.2.2.1) h (fun b _ _ hb => (f.1.1 b hb).1) f.2
/-- what the class writes -/
def CZ : Nat → Prop := fun b => b < 49 ∨ 497 ≤ b
theorem IR_c {n l len : Nat} {cs : Nat → Nat} {bk : List (Nat × Nat)} {y : Nat → Nat} {t : Nat} {pl rf : Int32} {ru : Nat → Int32} {pk ik : Nat} {jk : Nat → Nat} {ct : Nat → St} {B e s : Nat} {A R : Nat → Prop} {m m' : Mm} (p : IP n l len cs bk pk ik jk ct B) (h : IR n l len cs bk y t pl rf ru pk ik jk ct m) (hN : 498 ≤ mN m) (f : Fg A R e s m m') (hA : ∀ b, A b → CZ b) : IR n l len cs bk y t pl rf ru pk ik jk ct m' := by
  have w : ∀ b, 49 ≤ b → b ≤ 496 → rI m' b = rI m b := fun b h1 h2 => (f.1 b (by omega) (fun z => by have := hA b z; unfold CZ at this; omega)).1
  exact IR_w p.2.2.2.2.1 p.2.2.2.2.2.1 p.2.2.1.2.2.2 (BK_len p.2.2.2.1) h (fun b h1 h2 _ => w b h1 h2) (fun j _ => by rw [w 49 (by omega) (by omega)])
