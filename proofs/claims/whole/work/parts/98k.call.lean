/-! L2: calls that look, and refusals. -/
theorem bxL {α β : Type} {X : Option ((α ⊕ Nat) × Mm)} {r : α} {m : Mm} (h : X = some (.inl r, m)) (f : α → Mm → Option β) (g : Nat → Mm → Option β) : bx X f g = f r m := by rw [h, bx_l]
theorem bxR {α β : Type} {X : Option ((α ⊕ Nat) × Mm)} {r : Nat} {m : Mm} (h : X = some (.inr r, m)) (f : α → Mm → Option β) (g : Nat → Mm → Option β) : bx X f g = g r m := by rw [h, bx_r]
/-- a class's call that looks: an answer, or a refusal -/
def CA {α : Type} (X : Option ((α ⊕ Nat) × Mm)) (R : α ⊕ Nat) (m : Mm) : Prop := match R with
  | .inl r => ∃ m', X = some (.inl r, m') ∧ Qf m m'
  | .inr k => k < 4 ∧ ∃ z, z ≤ 8 ∧ X = some (.inr k, nw (wI m 48 k (rI m 48 k + 1)) 50 z)
def bdM (m : Mm) (k : Nat) (c : Int32) : Mm := wI (wI (wI m 49 0 0) 49 0 c) 51 k (rI m 51 k + 1)
/-- the reference's -/
def RA {α : Type} (X : Option (α × Mm)) (R : α ⊕ Nat) (hx : Nat → Option Int32) (d : α) (m : Mm) : Prop := match R with
  | .inl r => ∃ m', X = some (r, m') ∧ rI m' 49 0 = 0 ∧ Qr m m'
  | .inr k => ∃ c, hx k = some c ∧ X = some (d, bdM m k c)
def ruR {α : Type} (ru : Nat → Int32) (R : α ⊕ Nat) : Nat → Int32 := match R with
  | .inl _ => ru
  | .inr k => uf ru k (ru k + 1)
theorem IC_ctx {n l len : Nat} {cs : Nat → Nat} {bk : List (Nat × Nat)} {y : Nat → Nat} {t : Nat} {pl rf : Int32} {ru : Nat → Int32} {pk ik : Nat} {jk : Nat → Nat} {ct : Nat → St} {B : Nat} {m : Mm} (p : IP n l len cs bk pk ik jk ct B) (h : IC n l len cs bk y t pl rf ru pk ik jk ct m) : QC n len cs m ∧ absC m 16 = ct 0 ∧ WF n B (ct 0) ∧ G m := by
  obtain ⟨qc, qd, q1, q2, q3⟩ := h.2.2.2.1
  obtain ⟨q, e1, e2⟩ := cn_p (h.2.2.2.2.2.2.2.2.2.2.2.2.2 0 (Val_0 _ _ _))
  cases e1
  exact ⟨⟨h.1, h.2.2.1.1, p.1, ⟨qc, by omega, q3⟩, p.2.2.1⟩, e2, p.2.2.2.2.2.2.2 0 (Val_0 _ _ _), h.1⟩
theorem IR_now {n l len : Nat} {cs : Nat → Nat} {bk : List (Nat × Nat)} {y : Nat → Nat} {t : Nat} {pl rf : Int32} {ru : Nat → Int32} {pk ik : Nat} {jk : Nat → Nat} {ct : Nat → St} {m : Mm} (h : IR n l len cs bk y t pl rf ru pk ik jk ct m) : RR (rI m 473) (ct 0) := by
  have z := h.2.2.2.2.2.2.2.2.2.2 0 (Val_0 _ _ _)
  exact RR_cp z (fun j _ => by
    show rI m 473 j = rI m 473 (0 + j)
    rw [Nat.zero_add])
theorem IR_RC {n l len : Nat} {cs : Nat → Nat} {bk : List (Nat × Nat)} {y : Nat → Nat} {t : Nat} {pl rf : Int32} {ru : Nat → Int32} {pk ik : Nat} {jk : Nat → Nat} {ct : Nat → St} {B : Nat} {m : Mm} (p : IP n l len cs bk pk ik jk ct B) (g : G m) (h : IR n l len cs bk y t pl rf ru pk ik jk ct m) : RC n (ni l) len cs m := ⟨g, h.1.1, h.1.2, p.1, h.2.1, p.2.2.1⟩
theorem IC_ref {n l len : Nat} {cs : Nat → Nat} {bk : List (Nat × Nat)} {y : Nat → Nat} {t : Nat} {pl rf : Int32} {ru : Nat → Int32} {pk ik : Nat} {jk : Nat → Nat} {ct : Nat → St} {B : Nat} {m : Mm} (p : IP n l len cs bk pk ik jk ct B) (h : IC n l len cs bk y t pl rf ru pk ik jk ct m) {k z : Nat} (hk : k < 4) (hz : z ≤ 8) : IC n l len cs bk y t pl rf (uf ru k (ru k + 1)) pk ik jk ct (nw (wI m 48 k (rI m 48 k + 1)) 50 z) ∧ Gc m (nw (wI m 48 k (rI m 48 k + 1)) 50 z) := by
  obtain ⟨g, hN, hr, s, st⟩ := IC_un h
  have f1 : Fm (fun b => b = 48) m (wI m 48 k (rI m 48 k + 1)) := Fm_wI (Fm_refl _ _) rfl
  have hN1 : mN (wI m 48 k (rI m 48 k + 1)) = mN m := rfl
  have f2 : Fg (fun _ => False) (fun _ => False) 1 z (wI m 48 k (rI m 48 k + 1)) (nw (wI m 48 k (rI m 48 k + 1)) 50 z) := Fg_nw _ 50 z
  have f3 : Fg (fun b => b = 48) (fun _ => False) (0 + 1) (0 + z) m (nw (wI m 48 k (rI m 48 k + 1)) 50 z) := Fg_trans (Fm_Fg f1) (Fg_mono (fun _ q => q.elim) (fun _ q => q) (Nat.le_refl _) (Nat.le_refl _) f2)
  have w : ∀ b, b < mN m → b ≠ 48 → rI (nw (wI m 48 k (rI m 48 k + 1)) 50 z) b = rI m b := fun b hb h48 => (f3.1 b hb h48).1
  have r : ∀ b, b < mN m → rR (nw (wI m 48 k (rI m 48 k + 1)) 50 z) b = rR m b := fun b hb => f3.2.1 b hb (fun q => q)
  have e48 : ∀ i, rI (nw (wI m 48 k (rI m 48 k + 1)) 50 z) 48 i = uf (rI m 48) k (rI m 48 k + 1) i := fun i => by
    rw [(nw_I (by rw [hN1]; omega)).1, rIw]
  refine ⟨IC_mk (G_fg (fun _ q => q.elim) hN f3 g) (by have := Fg_N f3; omega) ?_ (Shp_g s hN f3 (fun _ q => q)) ⟨by rw [w 42 (by omega) (by omega)]; exact st.1, by rw [w 0 (by omega) (by omega)]; exact st.2.1, fun j A hj hA => ?_, fun u hu => ?_⟩, Fg_mono (fun b q => by rw [q]; unfold CZ; omega) (fun _ _ => trivial) (by omega) (by omega) f3⟩
  · obtain ⟨⟨a1, a2⟩, ⟨qc, qd, q1, q2, q3⟩, ⟨b1, b2, b3⟩, ⟨t1, t2, t3⟩, e1, e2, e3⟩ := hr
    refine ⟨⟨by rw [w 3 (by omega) (by omega)]; exact a1, by rw [w 3 (by omega) (by omega)]; exact a2⟩, ⟨qc, qd, q1, by rw [r 4 (by omega)]; exact q2, ?_⟩, ⟨by rw [w 12 (by omega) (by omega)]; exact b1, by rw [w 12 (by omega) (by omega)]; exact b2, by rw [w 12 (by omega) (by omega)]; exact b3⟩, ⟨by rw [w 1 (by omega) (by omega)]; exact t1, t2, fun i hi => by rw [w 2 (by omega) (by omega)]; exact t3 i hi⟩, by rw [w 1 (by omega) (by omega)]; exact e1, by rw [w 0 (by omega) (by omega)]; exact e2, fun i hi => ?_⟩
    · unfold LC
      rw [sH_g f3 (show 4 < mN m by omega), sH_g f3 (show qc < mN m by omega), sH_g f3 (show 7 < mN m by omega), r 4 (by omega), w 4 (by omega) (by omega), w qc (by omega) (by omega)]
      exact q3
    · rw [e48, uf_ap, uf_ap, e3 i hi, e3 k hk]
  · rw [r 44 (by omega)] at hA
    have b := s.2.2 j A (by have := p.2.2.2.2.2.1; omega) hA
    rw [w (A + 14) (sH_in b.2.2.2.1) (by have := b.2.2.2.2.2.2; omega)]
    exact st.2.2.1 j A hj hA
  · have v := Val_69 p.2.2.2.2.1 p.2.2.2.2.2.1 p.2.2.2.2.2.2.1 hu
    rw [cn_e (adr_g s hN r v.1) (fun q hq => abs_g f3 (s.1 u q v.1 hq).1 (fun b r z => ?_))]
    · exact st.2.2.2 u hu
    · rw [z] at r
      unfold reg at r
      by_cases h0 : u = 0
      · subst h0
        cases hq
        omega
      · have := (s.1 u q v.1 hq).2 (by omega)
        omega
theorem IR_ref {n l len : Nat} {cs : Nat → Nat} {bk : List (Nat × Nat)} {y : Nat → Nat} {t : Nat} {pl rf : Int32} {ru : Nat → Int32} {pk ik : Nat} {jk : Nat → Nat} {ct : Nat → St} {B : Nat} {m : Mm} {c : Int32} (p : IP n l len cs bk pk ik jk ct B) (h : IR n l len cs bk y t pl rf ru pk ik jk ct m) {k : Nat} (hk : k < 4) : IR n l len cs bk y t pl rf (uf ru k (ru k + 1)) pk ik jk ct (bdM m k c) ∧ Gz m (bdM m k c) ∧ rI (bdM m k c) 49 0 = c := by
  have h' := IR_0 c (IR_0 0 h)
  obtain ⟨⟨a1, a2⟩, b1, ⟨c1, c2⟩, ⟨t1, t2, t3⟩, e1, e2, e3, s1, s2, s3, s4⟩ := h'
  have w : ∀ b, b ≠ 51 → rI (bdM m k c) b = rI (wI (wI m 49 0 0) 49 0 c) b := fun b hb => rIw_ne hb
  refine ⟨⟨⟨by rw [w 53 (by omega)]; exact a1, by rw [w 53 (by omega)]; exact a2⟩, ?_, ⟨fun i hi => ?_, by rw [w 49 (by omega)]; exact c2⟩, ⟨by rw [w 49 (by omega)]; exact t1, t2, fun i hi => by rw [w 50 (by omega)]; exact t3 i hi⟩, by rw [w 49 (by omega)]; exact e1, by rw [w 49 (by omega)]; exact e2, fun i hi => ?_, by rw [w 49 (by omega)]; exact s1, by rw [w 49 (by omega)]; exact s2, fun j hj => by rw [w (493 + j) (by omega)]; exact s3 j hj, fun u hu => ?_⟩, Fm_wI (Fm_wI (Fm_wI (Fm_refl _ _) (by omega)) (by omega)) (by omega), by rw [w 49 (by omega), rIw, uf_at]⟩
  · unfold RLc
    rw [w 49 (by omega)]
    rcases b1 with b1 | ⟨b1, b2⟩
    · exact .inl b1
    · refine .inr ⟨b1, fun i hi => ?_⟩
      have := p.2.2.1.2.2.2
      rw [w (54 + 1 + i) (by omega)]
      exact b2 i hi
  · rw [w (376 + 1 + i) (by omega)]
    exact c1 i hi
  · have z := h.2.2.2.2.2.2.1
    rw [show rI (bdM m k c) 51 = uf (rI (wI (wI m 49 0 0) 49 0 c) 51) k (rI m 51 k + 1) from rIw _ _ _ _, uf_ap, uf_ap, e3 i hi, z k hk]
  · have z := rc9_r p.2.2.2.2.1 p.2.2.2.2.2.1 hu
    rw [w (rc9 u) (by omega)]
    exact s4 u hu
/-- all that holds behind k calls -/
def Inv (k : Nat) (m : Mm) : Prop := ∃ (n l len : Nat) (cs : Nat → Nat) (bk : List (Nat × Nat)) (y : Nat → Nat) (t : Nat) (pl rf : Int32) (ru : Nat → Int32) (pk ik : Nat) (jk : Nat → Nat) (ct : Nat → St), IC n l len cs bk y t pl rf ru pk ik jk ct m ∧ IR n l len cs bk y t pl rf ru pk ik jk ct m ∧ IP n l len cs bk pk ik jk ct (1 + 201 * k) ∧ mN m ≤ 498 + 224 * k ∧ mS m ≤ 80000 + 10458 * k
/-- a call without refusals: the same answer -/
def Cl0 {α : Type} (k : Nat) (m : Mm) (X Y : Mm → Option (α × Mm)) : Prop := ∃ r m1 m2, X m = some (r, m1) ∧ G m1 ∧ Y m1 = some (r, m2) ∧ Inv (k + 1) m2
/-- a call with refusals, as the law asks it -/
def Cl1 (k : Nat) (m : Mm) (X Y : Mm → Option (Int32 × Mm)) : Prop := ∃ c m1 w m2, X m = some (c, m1) ∧ G m1 ∧ Y m1 = some (w, m2) ∧ G m2 ∧ rI m2 49 0 = c ∧ (c = 0 → rL m2 497 0 = w.toInt64) ∧ Inv (k + 1) m2
def Cl2 (k : Nat) (m : Mm) (X : Mm → Option (Int32 × Mm)) (Y : Mm → Option (Int64 × Mm)) : Prop := ∃ c m1 w m2, X m = some (c, m1) ∧ G m1 ∧ Y m1 = some (w, m2) ∧ G m2 ∧ rI m2 49 0 = c ∧ (c = 0 → rL m2 497 0 = w) ∧ Inv (k + 1) m2
def wrI (hx : Nat → Option Int32) (X : Mm → Option ((Int32 ⊕ Nat) × Mm)) (m : Mm) : Option (Int32 × Mm) := gd (okO m 0 11) (bx (X m) (fun r m1 => gd (okA m1 101 497 0) (lt9 (wL m1 497 (ix 0) r.toInt64) fun m2 => some (0, m2))) (fun k m => hd9 (hx k) m))
def wrL (hx : Nat → Option Int32) (X : Mm → Option ((Int64 ⊕ Nat) × Mm)) (m : Mm) : Option (Int32 × Mm) := gd (okO m 0 11) (bx (X m) (fun r m1 => gd (okA m1 101 497 0) (lt9 (wL m1 497 (ix 0) r) fun m2 => some (0, m2))) (fun k m => hd9 (hx k) m))
theorem IP_B {n l len : Nat} {cs : Nat → Nat} {bk : List (Nat × Nat)} {pk ik : Nat} {jk : Nat → Nat} {ct : Nat → St} {B B' : Nat} (p : IP n l len cs bk pk ik jk ct B) (h : B ≤ B') (hB : B' < 1000000) : IP n l len cs bk pk ik jk ct B' :=
  ⟨p.1, p.2.1, p.2.2.1, p.2.2.2.1, p.2.2.2.2.1, p.2.2.2.2.2.1, p.2.2.2.2.2.2.1, fun u hu => WF_B (p.2.2.2.2.2.2.2 u hu) h hB⟩
theorem Gc_b {k : Nat} {m m' : Mm} (f : Gc m m') (h1 : mN m ≤ 498 + 224 * k) (h2 : mS m ≤ 80000 + 10458 * k) : mN m' ≤ 498 + 224 * (k + 1) ∧ mS m' ≤ 80000 + 10458 * (k + 1) := by
  have := Fg_N f
  have := f.2.2.2
  omega
theorem Gz_b {m m' : Mm} {A : Nat → Prop} (f : Fm A m m') : mN m' = mN m ∧ mS m' = mS m := ⟨by unfold mN; rw [f.2.2.1], f.2.2.2⟩
/-- put together: class, then reference -/
theorem Inv_mk {n l len : Nat} {cs : Nat → Nat} {bk : List (Nat × Nat)} {y : Nat → Nat} {t : Nat} {pl rf : Int32} {ru : Nat → Int32} {pk ik : Nat} {jk : Nat → Nat} {ct : Nat → St} {k : Nat} {m m1 m2 : Mm} (hC : IC n l len cs bk y t pl rf ru pk ik jk ct m1) (hR : IR n l len cs bk y t pl rf ru pk ik jk ct m2) (p : IP n l len cs bk pk ik jk ct (1 + 201 * (k + 1))) (f1 : Gc m m1) (f2 : Fm (fun b => 49 ≤ b ∧ b ≤ 497) m1 m2) (h1 : mN m ≤ 498 + 224 * k) (h2 : mS m ≤ 80000 + 10458 * k) : Inv (k + 1) m2 := by
  have b := Gc_b f1 h1 h2
  have z := Gz_b f2
  exact ⟨n, l, len, cs, bk, y, t, pl, rf, ru, pk, ik, jk, ct, IC_z p hC f2 (fun _ q => q), hR, p, by omega, by omega⟩
theorem out_IC {n l len : Nat} {cs : Nat → Nat} {bk : List (Nat × Nat)} {y : Nat → Nat} {t : Nat} {pl rf : Int32} {ru : Nat → Int32} {pk ik : Nat} {jk : Nat → Nat} {ct : Nat → St} {B : Nat} {m : Mm} {v : Int64} (p : IP n l len cs bk pk ik jk ct B) (h : IC n l len cs bk y t pl rf ru pk ik jk ct m) : IC n l len cs bk y t pl rf ru pk ik jk ct (wL m 497 0 v) := IC_z p h (Fm_wL (Fm_refl (fun b => b = 497) m) rfl) (fun b z => by rw [z]; unfold RZ; omega)
theorem out_IR {n l len : Nat} {cs : Nat → Nat} {bk : List (Nat × Nat)} {y : Nat → Nat} {t : Nat} {pl rf : Int32} {ru : Nat → Int32} {pk ik : Nat} {jk : Nat → Nat} {ct : Nat → St} {m : Mm} {v : Int64} (h : IR n l len cs bk y t pl rf ru pk ik jk ct m) : IR n l len cs bk y t pl rf ru pk ik jk ct (wL m 497 0 v) := h
theorem cal1 {X : Mm → Option ((Int32 ⊕ Nat) × Mm)} {Y : Mm → Option (Int32 × Mm)} {hx : Nat → Option Int32} {R : Int32 ⊕ Nat} {k : Nat} {n l len : Nat} {cs : Nat → Nat} {bk : List (Nat × Nat)} {y : Nat → Nat} {t : Nat} {pl rf : Int32} {ru : Nat → Int32} {pk ik : Nat} {jk : Nat → Nat} {ct : Nat → St} {m : Mm} (hC : IC n l len cs bk y t pl rf ru pk ik jk ct m) (hR : IR n l len cs bk y t pl rf ru pk ik jk ct m) (p : IP n l len cs bk pk ik jk ct (1 + 201 * k)) (h1 : mN m ≤ 498 + 224 * k) (h2 : mS m ≤ 80000 + 10458 * k) (hk : k ≤ 600) (hx0 : ∀ k, hx k ≠ some 0) (c : CA (X m) R m) (r : ∀ m1, G m1 → IR n l len cs bk y t pl rf ru pk ik jk ct m1 → RA (Y m1) R hx 0 m1) : Cl1 k m (wrI hx X) Y := by
  have g := hC.1
  have p' := IP_B p (show 1 + 201 * k ≤ 1 + 201 * (k + 1) by omega) (by omega)
  cases R with
  | inl v =>
    obtain ⟨m1, x1, x2⟩ := c
    have hC1 := IC_q p hC x2
    have f1 : Gc m m1 := Gc_m x2.1 (fun b z => by unfold SQ at z; unfold CZ; omega)
    have hR1 : IR n l len cs bk y t pl rf ru pk ik jk ct m1 := IR_c p hR hC.2.1 f1 (fun _ q => q)
    have g1 := hC1.1
    have hR2 : IR n l len cs bk y t pl rf ru pk ik jk ct (wL m1 497 0 v.toInt64) := out_IR hR1
    have g2 : G (wL m1 497 0 v.toInt64) := G_wL g1
    obtain ⟨m3, y1, y2, y3⟩ := r (wL m1 497 0 v.toInt64) g2 hR2
    have g3 := G_fr y3.1 g2
    refine ⟨0, wL m1 497 0 v.toInt64, v, m3, ?_, g2, y1, g3, y2, fun _ => ?_, ?_⟩
    · unfold wrI
      rw [gO0 g, gd_t, bxL x1, gK497 g1 (show 0 < 1 by omega), gd_t, lt9_e, show ix (0 : Int32) = 0 from by decide]
    · rw [(y3.1.1 497 (by unfold AQR; omega)).2, rLw, uf_at]
    · exact Inv_mk (out_IC p' hC1) (IR_q p hR2 y3) p' (Fg_mono (e := 224 + 0) (s := 10458 + 0) (fun _ z => z) (fun _ z => z) (by omega) (by omega) (Fg_trans f1 (Fm_Fg (Fm_wL (Fm_refl _ _) (by unfold CZ; omega))))) (Fm_mono (fun b z => by unfold AQR at z; omega) y3.1) h1 h2
  | inr j =>
    obtain ⟨hj, z, hz, x1⟩ := c
    obtain ⟨hC1, f1⟩ := IC_ref p hC hj hz
    have hR1 : IR n l len cs bk y t pl rf ru pk ik jk ct _ := IR_c p hR hC.2.1 f1 (fun _ q => q)
    obtain ⟨cc, y1, y2⟩ := r _ hC1.1 hR1
    obtain ⟨hR2, f2, e0⟩ := IR_ref (c := cc) p hR1 hj
    have hne : cc ≠ 0 := fun q => hx0 j (by rw [y1, q])
    refine ⟨cc, _, 0, _, ?_, hC1.1, y2, G_fr f2 hC1.1, e0, fun q => absurd q hne, ?_⟩
    · unfold wrI
      rw [gO0 g, gd_t, bxR x1, y1]
      rfl
    · exact Inv_mk hC1 hR2 p' f1 (Fm_mono (fun b z => by omega) f2) h1 h2
theorem cal2 {X : Mm → Option ((Int64 ⊕ Nat) × Mm)} {Y : Mm → Option (Int64 × Mm)} {hx : Nat → Option Int32} {R : Int64 ⊕ Nat} {k : Nat} {n l len : Nat} {cs : Nat → Nat} {bk : List (Nat × Nat)} {y : Nat → Nat} {t : Nat} {pl rf : Int32} {ru : Nat → Int32} {pk ik : Nat} {jk : Nat → Nat} {ct : Nat → St} {m : Mm} (hC : IC n l len cs bk y t pl rf ru pk ik jk ct m) (hR : IR n l len cs bk y t pl rf ru pk ik jk ct m) (p : IP n l len cs bk pk ik jk ct (1 + 201 * k)) (h1 : mN m ≤ 498 + 224 * k) (h2 : mS m ≤ 80000 + 10458 * k) (hk : k ≤ 600) (hx0 : ∀ k, hx k ≠ some 0) (c : CA (X m) R m) (r : ∀ m1, G m1 → IR n l len cs bk y t pl rf ru pk ik jk ct m1 → RA (Y m1) R hx 0 m1) : Cl2 k m (wrL hx X) Y := by
  have g := hC.1
  have p' := IP_B p (show 1 + 201 * k ≤ 1 + 201 * (k + 1) by omega) (by omega)
  cases R with
  | inl v =>
    obtain ⟨m1, x1, x2⟩ := c
    have hC1 := IC_q p hC x2
    have f1 : Gc m m1 := Gc_m x2.1 (fun b z => by unfold SQ at z; unfold CZ; omega)
    have hR1 : IR n l len cs bk y t pl rf ru pk ik jk ct m1 := IR_c p hR hC.2.1 f1 (fun _ q => q)
    have g1 := hC1.1
    have hR2 : IR n l len cs bk y t pl rf ru pk ik jk ct (wL m1 497 0 v) := out_IR hR1
    have g2 : G (wL m1 497 0 v) := G_wL g1
    obtain ⟨m3, y1, y2, y3⟩ := r (wL m1 497 0 v) g2 hR2
    have g3 := G_fr y3.1 g2
    refine ⟨0, wL m1 497 0 v, v, m3, ?_, g2, y1, g3, y2, fun _ => ?_, ?_⟩
    · unfold wrL
      rw [gO0 g, gd_t, bxL x1, gK497 g1 (show 0 < 1 by omega), gd_t, lt9_e, show ix (0 : Int32) = 0 from by decide]
    · rw [(y3.1.1 497 (by unfold AQR; omega)).2, rLw, uf_at]
    · exact Inv_mk (out_IC p' hC1) (IR_q p hR2 y3) p' (Fg_mono (e := 224 + 0) (s := 10458 + 0) (fun _ z => z) (fun _ z => z) (by omega) (by omega) (Fg_trans f1 (Fm_Fg (Fm_wL (Fm_refl _ _) (by unfold CZ; omega))))) (Fm_mono (fun b z => by unfold AQR at z; omega) y3.1) h1 h2
  | inr j =>
    obtain ⟨hj, z, hz, x1⟩ := c
    obtain ⟨hC1, f1⟩ := IC_ref p hC hj hz
    have hR1 : IR n l len cs bk y t pl rf ru pk ik jk ct _ := IR_c p hR hC.2.1 f1 (fun _ q => q)
    obtain ⟨cc, y1, y2⟩ := r _ hC1.1 hR1
    obtain ⟨hR2, f2, e0⟩ := IR_ref (c := cc) p hR1 hj
    have hne : cc ≠ 0 := fun q => hx0 j (by rw [y1, q])
    refine ⟨cc, _, 0, _, ?_, hC1.1, y2, G_fr f2 hC1.1, e0, fun q => absurd q hne, ?_⟩
    · unfold wrL
      rw [gO0 g, gd_t, bxR x1, y1]
      rfl
    · exact Inv_mk hC1 hR2 p' f1 (Fm_mono (fun b z => by omega) f2) h1 h2
/-- a call that looks, without refusals -/
theorem cal0 {α : Type} {X Y : Mm → Option (α × Mm)} {v : α} {k : Nat} {n l len : Nat} {cs : Nat → Nat} {bk : List (Nat × Nat)} {y : Nat → Nat} {t : Nat} {pl rf : Int32} {ru : Nat → Int32} {pk ik : Nat} {jk : Nat → Nat} {ct : Nat → St} {m : Mm} (hC : IC n l len cs bk y t pl rf ru pk ik jk ct m) (hR : IR n l len cs bk y t pl rf ru pk ik jk ct m) (p : IP n l len cs bk pk ik jk ct (1 + 201 * k)) (h1 : mN m ≤ 498 + 224 * k) (h2 : mS m ≤ 80000 + 10458 * k) (hk : k ≤ 600) (c : ∃ m1, X m = some (v, m1) ∧ Qf m m1) (r : ∀ m1, G m1 → IR n l len cs bk y t pl rf ru pk ik jk ct m1 → ∃ m2, Y m1 = some (v, m2) ∧ Qr m1 m2) : Cl0 k m X Y := by
  have p' := IP_B p (show 1 + 201 * k ≤ 1 + 201 * (k + 1) by omega) (by omega)
  obtain ⟨m1, x1, x2⟩ := c
  have hC1 := IC_q p hC x2
  have f1 : Gc m m1 := Gc_m x2.1 (fun b z => by unfold SQ at z; unfold CZ; omega)
  have hR1 : IR n l len cs bk y t pl rf ru pk ik jk ct m1 := IR_c p hR hC.2.1 f1 (fun _ q => q)
  obtain ⟨m2, y1, y2⟩ := r m1 hC1.1 hR1
  exact ⟨v, m1, m2, x1, hC1.1, y1, Inv_mk hC1 (IR_q p hR1 y2) p' f1 (Fm_mono (fun b z => by unfold AQR at z; omega) y2.1) h1 h2⟩
/-! the class's conditions -/
theorem needM_ok {m : Mm} {n i : Nat} (g : G m) (h : rI m 3 0 = ni n) (hn : n ≤ 6) (hi : i < n) : F_X11_needMember 0 (ni i) m = some (.inl (), m) := by
  have e : decide (¬ ni i < 0 ∧ ¬ ni n - 1 < ni i) = true := by
    refine decide_eq_true ⟨fun z => (ni_lt0 (by omega)).mp z, fun z => ?_⟩
    rw [show (1 : Int32) = ni 1 from rfl, ni_sub (by omega), ni_lt (by omega) (by omega)] at z
    omega
  unfold F_X11_needMember
  rw [gO0 g, gd_t, gR0_1 g, oc_s, gO3 g, gd_t, h, bdE (wth _ _ _ m), e, b2i_t, if_neg (by decide)]
abbrev mbr (n : Nat) (a : Int32) : Prop := ¬ a < 0 ∧ ¬ ni n - 1 < a
theorem mbr_i {n : Nat} {a : Int32} (hn : n ≤ 6) (h : mbr n a) : ∃ i, i < n ∧ a = ni i := by
  refine ⟨ix a, ?_, nx_of h.1⟩
  have z := h.2
  by_cases h0 : n = 0
  · subst h0
    exfalso
    have e : ni 0 - 1 = -1 := by decide
    rw [e] at z
    have z1 : ¬ a < 0 := h.1
    rw [Int32.lt_iff_toInt_lt] at z z1
    have e1 : (-1 : Int32).toInt = -1 := by decide
    have e0 : (0 : Int32).toInt = 0 := by decide
    omega
  · rw [show (1 : Int32) = ni 1 from rfl, ni_sub (by omega), nx_of h.1, ni_lt (by omega) (ix_B a)] at z
    omega
theorem needM_no {m : Mm} {n : Nat} {a : Int32} (g : G m) (h : rI m 3 0 = ni n) (hno : ¬ mbr n a) (hN : mN m + 1 < K9) : F_X11_needMember 0 a m = some (.inr 0, nw (wI m 48 0 (rI m 48 0 + 1)) 50 6) := by
  have e : decide (¬ a < 0 ∧ ¬ ni n - 1 < a) = false := decide_eq_false hno
  have e0 : ix (0 : Int32) = 0 := by decide
  unfold F_X11_needMember
  rw [gO0 g, gd_t, gR0_1 g, oc_s, gO3 g, gd_t, h, bdE (wth _ _ _ m), e, b2i_f, if_pos rfl, gO0 g, gd_t, gR0_12 g, oc_s, gK48 g (show 0 < 4 by omega), gd_t, gd_t, lt9_e, e0, decide_eq_true (show mN (wI m 48 0 (rI m 48 0 + 1)) + 1 < K9 from hN), gd_t]
theorem need_t {m : Mm} : F_X11_need 0 (b2i true) m = some (.inl (), m) := c_need1
theorem need_f {m : Mm} (g : G m) (hN : mN m + 1 < K9) : F_X11_need 0 (b2i false) m = some (.inr 1, nw (wI m 48 1 (rI m 48 1 + 1)) 50 6) := c_need0 g hN
theorem needP_t {m : Mm} : F_X11_needPointer 0 1 m = some (.inl (), m) := by
  unfold F_X11_needPointer
  rw [if_neg (by decide)]
theorem needP_f {m : Mm} (g : G m) (hN : mN m + 1 < K9) : F_X11_needPointer 0 0 m = some (.inr 2, nw (wI m 48 2 (rI m 48 2 + 1)) 50 8) := by
  have e0 : ix (2 : Int32) = 2 := by decide
  unfold F_X11_needPointer
  rw [if_pos rfl, gO0 g, gd_t, gR0_12 g, oc_s, gK48 g (show 2 < 4 by omega), gd_t, gd_t, lt9_e, e0, decide_eq_true (show mN (wI m 48 2 (rI m 48 2 + 1)) + 1 < K9 from hN), gd_t]
theorem needX_t {m : Mm} : F_X11_needIndex 0 1 m = some (.inl (), m) := by
  unfold F_X11_needIndex
  rw [if_neg (by decide)]
theorem needX_f {m : Mm} (g : G m) (hN : mN m + 1 < K9) : F_X11_needIndex 0 0 m = some (.inr 3, nw (wI m 48 3 (rI m 48 3 + 1)) 50 6) := by
  have e0 : ix (3 : Int32) = 3 := by decide
  unfold F_X11_needIndex
  rw [if_pos rfl, gO0 g, gd_t, gR0_12 g, oc_s, gK48 g (show 3 < 4 by omega), gd_t, gd_t, lt9_e, e0, decide_eq_true (show mN (wI m 48 3 (rI m 48 3 + 1)) + 1 < K9 from hN), gd_t]
/-! the reference's -/
theorem bad_f {m : Mm} {c r : Int32} (g : G m) (h : rI m 49 0 = 0) : F_X12_bad 49 0 c r m = some (0, m) := by
  unfold F_X12_bad
  simp (disch := first | assumption | omega | ((repeat (first | assumption | apply G_wI | apply G_wL | apply CSh_wI | apply CSh_wL)); done) | decide) only [↓dO0, ↓dO1, ↓dA2, ↓dK2, ↓dT2, ↓dO3, ↓dO4, ↓dA5, ↓dK5, ↓dT5, ↓dA6, ↓dK6, ↓dT6, ↓dA7, ↓dK7, ↓dT7, ↓dO8, ↓dA9, ↓dK9, ↓dT9, ↓dA10, ↓dK10, ↓dT10, ↓dA11, ↓dK11, ↓dT11, ↓dO12, ↓dA13, ↓dK13, ↓dT13, ↓dO14, ↓dA15, ↓dK15, ↓dT15, ↓dO16, ↓dO29, ↓dO42, ↓dA43, ↓dK43, ↓dT43, ↓dA44, ↓dK44, ↓dT44, ↓dO45, ↓dA46, ↓dK46, ↓dT46, ↓dO47, ↓dA48, ↓dK48, ↓dT48, ↓dO49, ↓dA50, ↓dK50, ↓dT50, ↓dA51, ↓dK51, ↓dT51, ↓dA52, ↓dK52, ↓dT52, ↓dA53, ↓dK53, ↓dT53, ↓dA54, ↓dK54, ↓dT54, ↓dA215, ↓dK215, ↓dT215, ↓dA376, ↓dK376, ↓dT376, ↓dA383, ↓dK383, ↓dT383, ↓dA390, ↓dK390, ↓dT390, ↓dA391, ↓dK391, ↓dT391, ↓dA392, ↓dK392, ↓dT392, ↓dA473, ↓dK473, ↓dT473, ↓dA474, ↓dK474, ↓dT474, ↓dA475, ↓dK475, ↓dT475, ↓dA492, ↓dK492, ↓dT492, ↓dA496, ↓dK496, ↓dT496, ↓dA497, ↓dK497, ↓dT497, ↓dR0_0, ↓dR0_1, ↓dR0_2, ↓dR0_3, ↓dR0_4, ↓dR0_5, ↓dR0_6, ↓dR0_7, ↓dR0_8, ↓dR0_9, ↓dR0_10, ↓dR0_11, ↓dR0_12, ↓dR1_0, ↓dR4_2, ↓dR8_0, ↓dR8_1, ↓dR8_2, ↓dR12_5, ↓dR14_0, ↓dR14_1, ↓dR14_2, ↓dR42_0, ↓dR45_0, ↓dR49_9, ↓dR49_10, ↓dR49_11, ↓dR49_12, ↓dR49_15, ↓dR49_16, ↓dR49_17, ↓dR49_18, ↓dR49_19, ↓dR49_20, ↓dR49_21, ↓dR49_23, ↓dR49_24, ↓dR49_25, ↓dR49_26, ↓dR49_34, ↓dF54, ↓dB54, ↓dC54, ↓dF215, ↓dB215, ↓dC215, ↓dF376, ↓dB376, ↓dC376, ↓dF383, ↓dB383, ↓dC383, ↓dF392, ↓dB392, ↓dC392, ↓dF475, ↓dB475, ↓dC475, ↓dF492, ↓dB492, ↓dC492, ↓lt9_e, ↓jn_e, ↓bd_s, gd_t, bd_s, oc_s, oc_n, lt9_e, jn_e, okOwI, okAwI, okTwI, lnwI, okOwL, okAwL, okTwL, lnwL, rRwI, rRwL, sHwI, sHwL, rIwL, rLwI, gO0, gO1, gA2, gK2, gT2, gN2, gO3, gO4, gA5, gK5, gT5, gN5, gA6, gK6, gT6, gN6, gA7, gK7, gT7, gN7, gO8, gA9, gK9, gT9, gN9, gA10, gK10, gT10, gN10, gA11, gK11, gT11, gN11, gO12, gA13, gK13, gT13, gN13, gO14, gA15, gK15, gT15, gN15, gO16, gO29, gO42, gA43, gK43, gT43, gN43, gA44, gK44, gT44, gN44, gO45, gA46, gK46, gT46, gN46, gO47, gA48, gK48, gT48, gN48, gO49, gA50, gK50, gT50, gN50, gA51, gK51, gT51, gN51, gA52, gK52, gT52, gN52, gA53, gK53, gT53, gN53, gA54, gK54, gT54, gN54, gA215, gK215, gT215, gN215, gA376, gK376, gT376, gN376, gA383, gK383, gT383, gN383, gA390, gK390, gT390, gN390, gA391, gK391, gT391, gN391, gA392, gK392, gT392, gN392, gA473, gK473, gT473, gN473, gA474, gK474, gT474, gN474, gA475, gK475, gT475, gN475, gA492, gK492, gT492, gN492, gA496, gK496, gT496, gN496, gA497, gK497, gT497, gN497, gR0_0, gR0_1, gR0_2, gR0_3, gR0_4, gR0_5, gR0_6, gR0_7, gR0_8, gR0_9, gR0_10, gR0_11, gR0_12, gR1_0, gR4_2, gR8_0, gR8_1, gR8_2, gR12_5, gR14_0, gR14_1, gR14_2, gR42_0, gR45_0, gR49_9, gR49_10, gR49_11, gR49_12, gR49_15, gR49_16, gR49_17, gR49_18, gR49_19, gR49_20, gR49_21, gR49_23, gR49_24, gR49_25, gR49_26, gR49_34, gF54, gB54, gC54, gF215, gB215, gC215, gF376, gB376, gC376, gF383, gB383, gC383, gF392, gB392, gC392, gF475, gB475, gC475, gF492, gB492, gC492, ni_le, ni_lt, ni_eq, ni_add, ni_mul, lni_le, lni_lt, nil_le, nil_lt, lni_eq, nil_eq, lni_add, nil_add, lni_mul, nil_mul, ix_ni, ix_lit, ni_ne1, ni_lt0, ↓reduceIte, Nat.reduceEqDiff, Nat.reduceMul, Nat.reduceAdd, Nat.reduceLeDiff, and_true, true_and, false_and, and_false, if_true, if_false, Nat.not_lt_zero, false_or, or_false, ft9, decide_true, o10, eq_self, b2i_0, b2i_1, b2i_ok, b2i_inj, b2i_t, b2i_f, rIwIk, h]
theorem bad_t {m : Mm} {c : Int32} {k : Nat} (g : G m) (hk : k < 4) (hc : c ≠ 0) : F_X12_bad 49 1 c (ni k) (wI m 49 0 0) = some (1, bdM m k c) := by
  have g0 : G (wI m 49 0 0) := G_wI g
  have g1 : G (wI (wI m 49 0 0) 49 0 c) := G_wI g0
  have e0 : rI (wI m 49 0 0) 49 0 = 0 := by rw [rIw, uf_at]
  have e1 : rI (wI (wI m 49 0 0) 49 0 c) 51 k = rI m 51 k := by rw [rIw_ne (by omega), rIw_ne (by omega)]
  have g2 : G (bdM m k c) := G_wI g1
  have e2 : rI (bdM m k c) 49 0 = c := by
    unfold bdM
    rw [rIw_ne (by omega), rIw, uf_at]
  unfold F_X12_bad
  unfold bdM at g2 e2 ⊢
  simp (disch := first | assumption | omega | ((repeat (first | assumption | apply G_wI | apply G_wL | apply CSh_wI | apply CSh_wL)); done) | decide) only [↓dO0, ↓dO1, ↓dA2, ↓dK2, ↓dT2, ↓dO3, ↓dO4, ↓dA5, ↓dK5, ↓dT5, ↓dA6, ↓dK6, ↓dT6, ↓dA7, ↓dK7, ↓dT7, ↓dO8, ↓dA9, ↓dK9, ↓dT9, ↓dA10, ↓dK10, ↓dT10, ↓dA11, ↓dK11, ↓dT11, ↓dO12, ↓dA13, ↓dK13, ↓dT13, ↓dO14, ↓dA15, ↓dK15, ↓dT15, ↓dO16, ↓dO29, ↓dO42, ↓dA43, ↓dK43, ↓dT43, ↓dA44, ↓dK44, ↓dT44, ↓dO45, ↓dA46, ↓dK46, ↓dT46, ↓dO47, ↓dA48, ↓dK48, ↓dT48, ↓dO49, ↓dA50, ↓dK50, ↓dT50, ↓dA51, ↓dK51, ↓dT51, ↓dA52, ↓dK52, ↓dT52, ↓dA53, ↓dK53, ↓dT53, ↓dA54, ↓dK54, ↓dT54, ↓dA215, ↓dK215, ↓dT215, ↓dA376, ↓dK376, ↓dT376, ↓dA383, ↓dK383, ↓dT383, ↓dA390, ↓dK390, ↓dT390, ↓dA391, ↓dK391, ↓dT391, ↓dA392, ↓dK392, ↓dT392, ↓dA473, ↓dK473, ↓dT473, ↓dA474, ↓dK474, ↓dT474, ↓dA475, ↓dK475, ↓dT475, ↓dA492, ↓dK492, ↓dT492, ↓dA496, ↓dK496, ↓dT496, ↓dA497, ↓dK497, ↓dT497, ↓dR0_0, ↓dR0_1, ↓dR0_2, ↓dR0_3, ↓dR0_4, ↓dR0_5, ↓dR0_6, ↓dR0_7, ↓dR0_8, ↓dR0_9, ↓dR0_10, ↓dR0_11, ↓dR0_12, ↓dR1_0, ↓dR4_2, ↓dR8_0, ↓dR8_1, ↓dR8_2, ↓dR12_5, ↓dR14_0, ↓dR14_1, ↓dR14_2, ↓dR42_0, ↓dR45_0, ↓dR49_9, ↓dR49_10, ↓dR49_11, ↓dR49_12, ↓dR49_15, ↓dR49_16, ↓dR49_17, ↓dR49_18, ↓dR49_19, ↓dR49_20, ↓dR49_21, ↓dR49_23, ↓dR49_24, ↓dR49_25, ↓dR49_26, ↓dR49_34, ↓dF54, ↓dB54, ↓dC54, ↓dF215, ↓dB215, ↓dC215, ↓dF376, ↓dB376, ↓dC376, ↓dF383, ↓dB383, ↓dC383, ↓dF392, ↓dB392, ↓dC392, ↓dF475, ↓dB475, ↓dC475, ↓dF492, ↓dB492, ↓dC492, ↓lt9_e, ↓jn_e, ↓bd_s, gd_t, bd_s, oc_s, oc_n, lt9_e, jn_e, okOwI, okAwI, okTwI, lnwI, okOwL, okAwL, okTwL, lnwL, rRwI, rRwL, sHwI, sHwL, rIwL, rLwI, gO0, gO1, gA2, gK2, gT2, gN2, gO3, gO4, gA5, gK5, gT5, gN5, gA6, gK6, gT6, gN6, gA7, gK7, gT7, gN7, gO8, gA9, gK9, gT9, gN9, gA10, gK10, gT10, gN10, gA11, gK11, gT11, gN11, gO12, gA13, gK13, gT13, gN13, gO14, gA15, gK15, gT15, gN15, gO16, gO29, gO42, gA43, gK43, gT43, gN43, gA44, gK44, gT44, gN44, gO45, gA46, gK46, gT46, gN46, gO47, gA48, gK48, gT48, gN48, gO49, gA50, gK50, gT50, gN50, gA51, gK51, gT51, gN51, gA52, gK52, gT52, gN52, gA53, gK53, gT53, gN53, gA54, gK54, gT54, gN54, gA215, gK215, gT215, gN215, gA376, gK376, gT376, gN376, gA383, gK383, gT383, gN383, gA390, gK390, gT390, gN390, gA391, gK391, gT391, gN391, gA392, gK392, gT392, gN392, gA473, gK473, gT473, gN473, gA474, gK474, gT474, gN474, gA475, gK475, gT475, gN475, gA492, gK492, gT492, gN492, gA496, gK496, gT496, gN496, gA497, gK497, gT497, gN497, gR0_0, gR0_1, gR0_2, gR0_3, gR0_4, gR0_5, gR0_6, gR0_7, gR0_8, gR0_9, gR0_10, gR0_11, gR0_12, gR1_0, gR4_2, gR8_0, gR8_1, gR8_2, gR12_5, gR14_0, gR14_1, gR14_2, gR42_0, gR45_0, gR49_9, gR49_10, gR49_11, gR49_12, gR49_15, gR49_16, gR49_17, gR49_18, gR49_19, gR49_20, gR49_21, gR49_23, gR49_24, gR49_25, gR49_26, gR49_34, gF54, gB54, gC54, gF215, gB215, gC215, gF376, gB376, gC376, gF383, gB383, gC383, gF392, gB392, gC392, gF475, gB475, gC475, gF492, gB492, gC492, ni_le, ni_lt, ni_eq, ni_add, ni_mul, lni_le, lni_lt, nil_le, nil_lt, lni_eq, nil_eq, lni_add, nil_add, lni_mul, nil_mul, ix_ni, ix_lit, ni_ne1, ni_lt0, ↓reduceIte, Nat.reduceEqDiff, Nat.reduceMul, Nat.reduceAdd, Nat.reduceLeDiff, and_true, true_and, false_and, and_false, if_true, if_false, Nat.not_lt_zero, false_or, or_false, ft9, decide_true, o10, eq_self, b2i_0, b2i_1, b2i_ok, b2i_inj, b2i_t, b2i_f, rIwIk, e0, e1, e2, hc]
theorem r_isMem {m : Mm} {n : Nat} {a : Int32} (g : G m) (h : rI m 53 0 = ni n) : F_X12_isMember 49 a m = some (b2i (decide (mbr n a)), m) := by
  unfold F_X12_isMember
  simp (disch := first | assumption | omega | ((repeat (first | assumption | apply G_wI | apply G_wL | apply CSh_wI | apply CSh_wL)); done) | decide) only [↓dO0, ↓dO1, ↓dA2, ↓dK2, ↓dT2, ↓dO3, ↓dO4, ↓dA5, ↓dK5, ↓dT5, ↓dA6, ↓dK6, ↓dT6, ↓dA7, ↓dK7, ↓dT7, ↓dO8, ↓dA9, ↓dK9, ↓dT9, ↓dA10, ↓dK10, ↓dT10, ↓dA11, ↓dK11, ↓dT11, ↓dO12, ↓dA13, ↓dK13, ↓dT13, ↓dO14, ↓dA15, ↓dK15, ↓dT15, ↓dO16, ↓dO29, ↓dO42, ↓dA43, ↓dK43, ↓dT43, ↓dA44, ↓dK44, ↓dT44, ↓dO45, ↓dA46, ↓dK46, ↓dT46, ↓dO47, ↓dA48, ↓dK48, ↓dT48, ↓dO49, ↓dA50, ↓dK50, ↓dT50, ↓dA51, ↓dK51, ↓dT51, ↓dA52, ↓dK52, ↓dT52, ↓dA53, ↓dK53, ↓dT53, ↓dA54, ↓dK54, ↓dT54, ↓dA215, ↓dK215, ↓dT215, ↓dA376, ↓dK376, ↓dT376, ↓dA383, ↓dK383, ↓dT383, ↓dA390, ↓dK390, ↓dT390, ↓dA391, ↓dK391, ↓dT391, ↓dA392, ↓dK392, ↓dT392, ↓dA473, ↓dK473, ↓dT473, ↓dA474, ↓dK474, ↓dT474, ↓dA475, ↓dK475, ↓dT475, ↓dA492, ↓dK492, ↓dT492, ↓dA496, ↓dK496, ↓dT496, ↓dA497, ↓dK497, ↓dT497, ↓dR0_0, ↓dR0_1, ↓dR0_2, ↓dR0_3, ↓dR0_4, ↓dR0_5, ↓dR0_6, ↓dR0_7, ↓dR0_8, ↓dR0_9, ↓dR0_10, ↓dR0_11, ↓dR0_12, ↓dR1_0, ↓dR4_2, ↓dR8_0, ↓dR8_1, ↓dR8_2, ↓dR12_5, ↓dR14_0, ↓dR14_1, ↓dR14_2, ↓dR42_0, ↓dR45_0, ↓dR49_9, ↓dR49_10, ↓dR49_11, ↓dR49_12, ↓dR49_15, ↓dR49_16, ↓dR49_17, ↓dR49_18, ↓dR49_19, ↓dR49_20, ↓dR49_21, ↓dR49_23, ↓dR49_24, ↓dR49_25, ↓dR49_26, ↓dR49_34, ↓dF54, ↓dB54, ↓dC54, ↓dF215, ↓dB215, ↓dC215, ↓dF376, ↓dB376, ↓dC376, ↓dF383, ↓dB383, ↓dC383, ↓dF392, ↓dB392, ↓dC392, ↓dF475, ↓dB475, ↓dC475, ↓dF492, ↓dB492, ↓dC492, ↓lt9_e, ↓jn_e, ↓bd_s, gd_t, bd_s, oc_s, oc_n, lt9_e, jn_e, okOwI, okAwI, okTwI, lnwI, okOwL, okAwL, okTwL, lnwL, rRwI, rRwL, sHwI, sHwL, rIwL, rLwI, gO0, gO1, gA2, gK2, gT2, gN2, gO3, gO4, gA5, gK5, gT5, gN5, gA6, gK6, gT6, gN6, gA7, gK7, gT7, gN7, gO8, gA9, gK9, gT9, gN9, gA10, gK10, gT10, gN10, gA11, gK11, gT11, gN11, gO12, gA13, gK13, gT13, gN13, gO14, gA15, gK15, gT15, gN15, gO16, gO29, gO42, gA43, gK43, gT43, gN43, gA44, gK44, gT44, gN44, gO45, gA46, gK46, gT46, gN46, gO47, gA48, gK48, gT48, gN48, gO49, gA50, gK50, gT50, gN50, gA51, gK51, gT51, gN51, gA52, gK52, gT52, gN52, gA53, gK53, gT53, gN53, gA54, gK54, gT54, gN54, gA215, gK215, gT215, gN215, gA376, gK376, gT376, gN376, gA383, gK383, gT383, gN383, gA390, gK390, gT390, gN390, gA391, gK391, gT391, gN391, gA392, gK392, gT392, gN392, gA473, gK473, gT473, gN473, gA474, gK474, gT474, gN474, gA475, gK475, gT475, gN475, gA492, gK492, gT492, gN492, gA496, gK496, gT496, gN496, gA497, gK497, gT497, gN497, gR0_0, gR0_1, gR0_2, gR0_3, gR0_4, gR0_5, gR0_6, gR0_7, gR0_8, gR0_9, gR0_10, gR0_11, gR0_12, gR1_0, gR4_2, gR8_0, gR8_1, gR8_2, gR12_5, gR14_0, gR14_1, gR14_2, gR42_0, gR45_0, gR49_9, gR49_10, gR49_11, gR49_12, gR49_15, gR49_16, gR49_17, gR49_18, gR49_19, gR49_20, gR49_21, gR49_23, gR49_24, gR49_25, gR49_26, gR49_34, gF54, gB54, gC54, gF215, gB215, gC215, gF376, gB376, gC376, gF383, gB383, gC383, gF392, gB392, gC392, gF475, gB475, gC475, gF492, gB492, gC492, ni_le, ni_lt, ni_eq, ni_add, ni_mul, lni_le, lni_lt, nil_le, nil_lt, lni_eq, nil_eq, lni_add, nil_add, lni_mul, nil_mul, ix_ni, ix_lit, ni_ne1, ni_lt0, ↓reduceIte, Nat.reduceEqDiff, Nat.reduceMul, Nat.reduceAdd, Nat.reduceLeDiff, and_true, true_and, false_and, and_false, if_true, if_false, Nat.not_lt_zero, false_or, or_false, ft9, decide_true, o10, eq_self, b2i_0, b2i_1, b2i_ok, b2i_inj, b2i_t, b2i_f, rIwIk, h, inr, b2i_ok]
