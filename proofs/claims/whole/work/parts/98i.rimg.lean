/-! L2: the reference's undo, image, restore. -/
theorem rq_G {m : Mm} {kq : Nat} (g : G m) (hq : 493 ≤ kq ∧ kq ≤ 495) : (sH m)[kq]? = some (100, 16457) := by
  have z := gS492 g (i := kq - 493) (by omega)
  rw [show 492 + 1 + (kq - 493) = kq by omega] at z
  exact z
theorem r_puts {m : Mm} {kq s : Nat} {v : Int32} {b : Bool} (g : G m) (hq : 493 ≤ kq ∧ kq ≤ 495) (hs : s < 16457) (h : rI m 49 31 = ni s) :
    ∃ m', F_X12_puts 49 kq v (b2i b) m = some (if b then rI m kq s else v, m') ∧ Fm (fun c => c = 49 ∨ c = kq) m m' ∧ rI m' 49 31 = ni (s + 1) ∧ (∀ j, j ≠ 31 → rI m' 49 j = rI m 49 j) ∧ rI m' kq s = (if b then rI m kq s else v) ∧ (∀ x, x ≠ s → rI m' kq x = rI m kq x) := by
  have hk := rq_G g hq
  have o : ∀ i, i < 16457 → okA m 100 kq (ni i) = true := fun i hi => okA_of hk hi (by omega)
  have k1 : ni s + 1 = ni (s + 1) := ni_add s 1
  have k2 : ni (s + 1) - 1 = ni s := by
    rw [show (1 : Int32) = ni 1 from rfl, ni_sub (by omega), show s + 1 - 1 = s by omega]
  cases b with
  | true =>
    refine ⟨wI m 49 31 (ni (s + 1)), ?_, Fm_wI (Fm_refl _ _) (.inl rfl), by rw [rIw, uf_at], fun j hj => by rw [rIw, uf_ne hj], by rw [rIw_ne (by omega), if_pos rfl], fun x _ => by rw [rIw_ne (by omega)]⟩
    have e1 : rI (wI m 49 31 (ni (s + 1))) 49 31 = ni (s + 1) := by rw [rIw, uf_at]
    have e2 : rI (wI m 49 31 (ni (s + 1))) kq s = rI m kq s := by rw [rIw_ne (by omega)]
    have o1 : okA (wI m 49 31 (ni (s + 1))) 100 kq (ni s) = true := o s hs
    unfold F_X12_puts
    rw [jn_e]
    dsimp only
    rw [b2i_t, if_neg (by decide), gO49 g, gd_t, gd_t, lt9_e, h, k1, gO49 (G_wI g), gd_t, e1, k2, o1, gd_t, ix_ni (by omega), e2, if_pos rfl]
  | false =>
    refine ⟨wI (wI m kq s v) 49 31 (ni (s + 1)), ?_, Fm_wI (Fm_wI (Fm_refl _ _) (.inr rfl)) (.inl rfl), by rw [rIw, uf_at], fun j hj => by rw [rIw, uf_ne hj, rIw_ne (by omega)], by rw [rIw_ne (by omega), rIw, uf_at, if_neg (by decide)], fun x hx => by rw [rIw_ne (by omega), rIw, uf_ne hx]⟩
    have e0 : rI (wI m kq s v) 49 31 = ni s := by rw [rIw_ne (by omega)]; exact h
    have e1 : rI (wI (wI m kq s v) 49 31 (ni (s + 1))) 49 31 = ni (s + 1) := by rw [rIw, uf_at]
    have e2 : rI (wI (wI m kq s v) 49 31 (ni (s + 1))) kq s = v := by rw [rIw_ne (by omega), rIw, uf_at]
    have o1 : okA (wI (wI m kq s v) 49 31 (ni (s + 1))) 100 kq (ni s) = true := o s hs
    have q1 : okO (wI m kq s v) 49 12 = true := gO49 (G_wI g)
    have q2 : okO (wI (wI m kq s v) 49 31 (ni (s + 1))) 49 12 = true := gO49 (G_wI (G_wI g))
    unfold F_X12_puts
    rw [jn_e]
    dsimp only
    rw [b2i_f, if_pos rfl, gO49 g, gd_t, h, o s hs, gd_t, lt9_e, ix_ni (by omega), q1, gd_t, gd_t, lt9_e, e0, k1, q2, gd_t, e1, k2, o1, gd_t, ix_ni (by omega), e2, if_neg (by decide)]
/-- one row is moved -/
def Mv (b : Bool) (kq r s0 i : Nat) (m m' : Mm) : Prop := Fm (fun c => c = 49 ∨ c = kq ∨ c = r) m m' ∧ (∀ j, j ≠ 31 → rI m' 49 j = rI m 49 j) ∧ (∀ x, i ≤ x → x < 968 → rI m' r x = (if b then rI m kq (s0 + x) else rI m r x) ∧ rI m' kq (s0 + x) = (if b then rI m kq (s0 + x) else rI m r x)) ∧ (∀ x, x < i ∨ 968 ≤ x → rI m' r x = rI m r x) ∧ (∀ x, x < s0 + i ∨ s0 + 968 ≤ x → rI m' kq x = rI m kq x)
theorem Mv_s {b : Bool} {kq r s0 i : Nat} {m m1 m' : Mm} (hr : r ≠ kq) (h49 : r ≠ 49 ∧ kq ≠ 49) (hi : i < 968) (f : Fm (fun c => c = 49 ∨ c = kq) m m1) (hj : ∀ j, j ≠ 31 → rI m1 49 j = rI m 49 j) (hk : rI m1 kq (s0 + i) = (if b then rI m kq (s0 + i) else rI m r i)) (hx : ∀ x, x ≠ s0 + i → rI m1 kq x = rI m kq x) (h : Mv b kq r s0 (i + 1) (wI m1 r i (if b then rI m kq (s0 + i) else rI m r i)) m') : Mv b kq r s0 i m m' := by
  obtain ⟨h1, h2, h3, h4, h5⟩ := h
  have er : rI m1 r = rI m r := (f.1 r (by omega)).1
  refine ⟨Fm_trans (Fm_mono (fun c z => by omega) f) (Fm_trans (Fm_wI (Fm_refl _ _) (.inr (.inr rfl))) h1), fun j q => ?_, fun x x1 x2 => ?_, fun x x1 => ?_, fun x x1 => ?_⟩
  · rw [h2 j q, rIw_ne (by omega)]
    exact hj j q
  · by_cases e : x = i
    · subst e
      rw [h4 x (.inl (by omega)), h5 (s0 + x) (.inl (by omega)), rIw, uf_at, rIw_ne (by omega)]
      exact ⟨rfl, hk⟩
    · have z := h3 x (by omega) x2
      rw [rIw, uf_ne e, rIw_ne (Ne.symm hr), hx (s0 + x) (by omega), er] at z
      exact z
  · rw [h4 x (by omega), rIw, uf_ne (by omega), er]
  · rw [h5 x (by omega), rIw_ne (Ne.symm hr), hx x (by omega)]
theorem Mv_e {b : Bool} {kq r s0 : Nat} {m : Mm} : Mv b kq r s0 968 m m := ⟨Fm_refl _ _, fun _ _ => rfl, fun x h1 h2 => by omega, fun _ _ => rfl, fun _ _ => rfl⟩
theorem r_mvN {K : Nat → Nat → Int32 → Mm → Option (Unit × Mm)} {kq : Nat} {b : Bool} (hq : 493 ≤ kq ∧ kq ≤ 495) : ∀ (d i fuel : Nat) (m : Mm), i + d = 968 → d < fuel → G m → rI m 49 31 = ni (1 + i) →
    ∃ m', L_X12_putsAll_21 K fuel 49 kq (b2i b) (ni i) m = K 49 kq (b2i b) m' ∧ Mv b kq 473 1 i m m' ∧ rI m' 49 31 = ni (1 + 968) := by
  intro d
  induction d with
  | zero =>
    intro i fuel m hd hf g h
    obtain ⟨fuel, rfl⟩ : ∃ z, fuel = z + 1 := ⟨fuel - 1, by omega⟩
    have e : i = 968 := by omega
    subst e
    refine ⟨m, ?_, Mv_e, h⟩
    rw [L_X12_putsAll_21, if_pos (by decide)]
  | succ d ih =>
    intro i fuel m hd hf g h
    obtain ⟨fuel, rfl⟩ : ∃ z, fuel = z + 1 := ⟨fuel - 1, by omega⟩
    have e : ¬ (968 : Int32) ≤ ni i := fun z => by
      rw [show (968 : Int32) = ni 968 from rfl, ni_le (by omega) (by omega)] at z
      omega
    obtain ⟨m1, x1, x2, x3, x4, x5, x6⟩ := r_puts (v := rI m 473 i) (b := b) g hq (s := 1 + i) (by omega) h
    have g1 := G_fr x2 g
    obtain ⟨m', y1, y2, y3⟩ := ih (i + 1) fuel (wI m1 473 i (if b then rI m kq (1 + i) else rI m 473 i)) (by omega) (by omega) (G_wI g1) (by rw [rIw_ne (by omega), x3, show 1 + i + 1 = 1 + (i + 1) by omega])
    refine ⟨m', ?_, Mv_s (by omega) (by omega) (by omega) x2 x4 x5 x6 y2, y3⟩
    rw [L_X12_putsAll_21, if_neg e, gO49 g, gd_t, gR49_23 g, oc_s, gd_t, oc_s, gA473 g (by omega), gd_t, gd_t, ix_ni (by omega), bdE x1, gA473 g1 (by omega), gd_t, lt9_e, lt9_e, show ni i + 1 = ni (i + 1) from ni_add i 1]
    exact y1
theorem r_mvB {K : Nat → Nat → Int32 → Int32 → Mm → Option (Unit × Mm)} {kq w : Nat} {b : Bool} (hq : 493 ≤ kq ∧ kq ≤ 495) (hw : w < 16) : ∀ (d i fuel : Nat) (m : Mm), i + d = 968 → d < fuel → G m → rI m 49 31 = ni (1 + 968 * (w + 1) + i) →
    ∃ m', L_X12_putsAll_63 K fuel 49 kq (b2i b) (ni w) (ni i) m = K 49 kq (b2i b) (ni w) m' ∧ Mv b kq (475 + 1 + w) (1 + 968 * (w + 1)) i m m' ∧ rI m' 49 31 = ni (1 + 968 * (w + 1) + 968) := by
  intro d
  induction d with
  | zero =>
    intro i fuel m hd hf g h
    obtain ⟨fuel, rfl⟩ : ∃ z, fuel = z + 1 := ⟨fuel - 1, by omega⟩
    have e : i = 968 := by omega
    subst e
    refine ⟨m, ?_, Mv_e, h⟩
    rw [L_X12_putsAll_63, if_pos (by decide)]
  | succ d ih =>
    intro i fuel m hd hf g h
    obtain ⟨fuel, rfl⟩ : ∃ z, fuel = z + 1 := ⟨fuel - 1, by omega⟩
    have e : ¬ (968 : Int32) ≤ ni i := fun z => by
      rw [show (968 : Int32) = ni 968 from rfl, ni_le (by omega) (by omega)] at z
      omega
    obtain ⟨m1, x1, x2, x3, x4, x5, x6⟩ := r_puts (v := rI m (475 + 1 + w) i) (b := b) g hq (s := 1 + 968 * (w + 1) + i) (by omega) h
    have g1 := G_fr x2 g
    obtain ⟨m', y1, y2, y3⟩ := ih (i + 1) fuel (wI m1 (475 + 1 + w) i (if b then rI m kq (1 + 968 * (w + 1) + i) else rI m (475 + 1 + w) i)) (by omega) (by omega) (G_wI g1) (by rw [rIw_ne (by omega), x3, show 1 + 968 * (w + 1) + i + 1 = 1 + 968 * (w + 1) + (i + 1) by omega])
    refine ⟨m', ?_, Mv_s (by omega) (by omega) (by omega) x2 x4 x5 x6 y2, y3⟩
    rw [L_X12_putsAll_63, if_neg e, gO49 g, gd_t, gR49_25 g, oc_s, gA475 g hw, gd_t, ix_ni (by omega), gF475 g hw, oc_s, gd_t, oc_s, gA475 g hw, gd_t, gF475 g hw, oc_s, gB475 g hw (by omega), gd_t, gd_t, ix_ni (by omega), bdE x1, gB475 g1 hw (by omega), gd_t, lt9_e, lt9_e, show ni i + 1 = ni (i + 1) from ni_add i 1]
    exact y1
/-- the rows before works are moved -/
def Mw (b : Bool) (kq w : Nat) (m m' : Mm) : Prop := Fm (fun c => c = 49 ∨ c = kq ∨ (476 ≤ c ∧ c ≤ 491)) m m' ∧ (∀ j, j ≠ 31 → rI m' 49 j = rI m 49 j) ∧ (∀ z, w ≤ z → z < 16 → ∀ x, x < 968 → rI m' (476 + z) x = (if b then rI m kq (1 + 968 * (z + 1) + x) else rI m (476 + z) x) ∧ rI m' kq (1 + 968 * (z + 1) + x) = (if b then rI m kq (1 + 968 * (z + 1) + x) else rI m (476 + z) x)) ∧ (∀ z, z < w → rI m' (476 + z) = rI m (476 + z)) ∧ (∀ x, x < 1 + 968 * (w + 1) → rI m' kq x = rI m kq x)
theorem r_mvW {kq : Nat} {b : Bool} (hq : 493 ≤ kq ∧ kq ≤ 495) : ∀ (d w fuel : Nat) (m : Mm), w + d = 16 → d < fuel → G m → rI m 49 31 = ni (1 + 968 * (w + 1)) →
    ∃ m', L_X12_putsAll_54 fuel 49 kq (b2i b) (ni w) m = some ((), m') ∧ Mw b kq w m m' := by
  intro d
  induction d with
  | zero =>
    intro w fuel m hd hf g h
    obtain ⟨fuel, rfl⟩ : ∃ z, fuel = z + 1 := ⟨fuel - 1, by omega⟩
    have e : w = 16 := by omega
    subst e
    refine ⟨m, ?_, Fm_refl _ _, fun _ _ => rfl, fun z h1 h2 => by omega, fun _ _ => rfl, fun _ _ => rfl⟩
    rw [L_X12_putsAll_54, if_pos (by decide)]
  | succ d ih =>
    intro w fuel m hd hf g h
    obtain ⟨fuel, rfl⟩ : ∃ z, fuel = z + 1 := ⟨fuel - 1, by omega⟩
    have e : ¬ (16 : Int32) ≤ ni w := fun z => by
      rw [show (16 : Int32) = ni 16 from rfl, ni_le (by omega) (by omega)] at z
      omega
    obtain ⟨m1, x1, x2, x3⟩ := r_mvB (K := fun v0 v1 v2 v3 m => lt9 (v3 + (1 : Int32)) fun x22 => L_X12_putsAll_54 fuel v0 v1 v2 x22 m) (b := b) hq (w := w) (by omega) 968 0 NF m (by omega) (by unfold NF; omega) g (by rw [Nat.add_zero]; exact h)
    obtain ⟨f1, f2, f3, f4, f5⟩ := x2
    have g1 := G_fr f1 g
    obtain ⟨m', y1, z1, z2, z3, z4, z5⟩ := ih (w + 1) fuel m1 (by omega) (by omega) g1 (by rw [x3, show 1 + 968 * (w + 1) + 968 = 1 + 968 * (w + 1 + 1) by omega])
    refine ⟨m', ?_, Fm_trans (Fm_mono (fun c z => by omega) f1) z1, fun j hj => (z2 j hj).trans (f2 j hj), fun z h1 h2 x hx => ?_, fun z hz => ?_, fun x hx => ?_⟩
    · rw [ni_0] at x1
      rw [L_X12_putsAll_54, if_neg e, lt9_e, x1, lt9_e, show ni w + 1 = ni (w + 1) from ni_add w 1]
      exact y1
    · by_cases ez : z = w
      · subst ez
        rw [z4 z (by omega), z5 _ (by omega)]
        have q := f3 x (by omega) hx
        rw [show 475 + 1 + z = 476 + z by omega] at q
        exact q
      · have q := z3 z (by omega) h2 x hx
        rw [f5 _ (.inr (by omega)), (f1.1 (476 + z) (by omega)).1] at q
        exact q
    · rw [z4 z (by omega), (f1.1 (476 + z) (by omega)).1]
    · have h5 : x < 1 + 968 * (w + 1 + 1) := Nat.lt_of_lt_of_le hx (Nat.add_le_add_left (Nat.mul_le_mul_left 968 (by omega)) 1)
      rw [z5 x h5, f5 x (.inl (Nat.lt_of_lt_of_le hx (Nat.le_refl _)))]
def rw9 (r : Nat) : Nat := if r = 0 then 473 else 475 + r
theorem r_putsAll {kq : Nat} {b : Bool} {m : Mm} (hq : 493 ≤ kq ∧ kq ≤ 495) (g : G m) :
    ∃ m', F_X12_putsAll 49 kq (b2i b) m = some ((), m') ∧ Fm (fun c => c = 49 ∨ c = kq ∨ c = 473 ∨ (476 ≤ c ∧ c ≤ 491)) m m' ∧ (∀ j, j ≠ 31 → j ≠ 28 → rI m' 49 j = rI m 49 j) ∧ rI m' 49 28 = (if b then rI m kq 0 else rI m 49 28) ∧ rI m' kq 0 = (if b then rI m kq 0 else rI m 49 28) ∧ (∀ r, r < 17 → ∀ x, x < 968 → rI m' (rw9 r) x = (if b then rI m kq (1 + 968 * r + x) else rI m (rw9 r) x) ∧ rI m' kq (1 + 968 * r + x) = (if b then rI m kq (1 + 968 * r + x) else rI m (rw9 r) x)) := by
  have f0 : Fm (fun c => c = 49) m (wI m 49 31 0) := Fm_wI (Fm_refl _ _) rfl
  have g0 := G_fr f0 g
  obtain ⟨m1, x1, x2, x3, x4, x5, x6⟩ := r_puts (v := rI (wI m 49 31 0) 49 28) (b := b) g0 hq (s := 0) (by omega) (by rw [rIw, uf_at]; rfl)
  have g1 := G_fr x2 g0
  have e28 : rI (wI m 49 31 0) 49 28 = rI m 49 28 := by rw [rIw, uf_ne (by omega)]
  have ekq : rI (wI m 49 31 0) kq = rI m kq := rIw_ne (by omega)
  rw [e28, ekq] at x1 x5
  obtain ⟨m2, y1, y2, y3⟩ := r_mvN (K := fun v0 v1 v2 m => lt9 (0 : Int32) fun x12 => L_X12_putsAll_54 NF v0 v1 v2 x12 m) (b := b) hq 968 0 NF (wI m1 49 28 (if b then rI m kq 0 else rI m 49 28)) (by omega) (by unfold NF; omega) (G_wI g1) (by rw [rIw, uf_ne (by omega)]; exact x3)
  obtain ⟨f1, f2, f3, f4, f5⟩ := y2
  have g2 := G_fr f1 (G_wI g1)
  obtain ⟨m', z1, w1, w2, w3, w4, w5⟩ := r_mvW (b := b) hq 16 0 NF m2 (by omega) (by unfold NF; omega) g2 (by rw [y3])
  have ek : ∀ x, x ≠ 0 → rI (wI m1 49 28 (if b then rI m kq 0 else rI m 49 28)) kq x = rI m kq x := fun x hx => by
    rw [rIw_ne (by omega), x6 x hx, ekq]
  have er : ∀ r, r = 473 ∨ (476 ≤ r ∧ r ≤ 491) → rI (wI m1 49 28 (if b then rI m kq 0 else rI m 49 28)) r = rI m r := fun r hr => by
    rw [rIw_ne (by omega), (x2.1 r (by omega)).1, rIw_ne (by omega)]
  refine ⟨m', ?_, Fm_trans (Fm_mono (fun c z => .inl z) f0) (Fm_trans (Fm_mono (fun c z => by omega) x2) (Fm_trans (Fm_wI (Fm_refl _ _) (.inl rfl)) (Fm_trans (Fm_mono (fun c z => by omega) f1) (Fm_mono (fun c z => by omega) w1)))), fun j h1 h2 => ?_, ?_, ?_, fun r hr x hx => ?_⟩
  · rw [ni_0] at y1 z1
    unfold F_X12_putsAll
    rw [gO49 g, gd_t, lt9_e, gO49 g0, gd_t, gd_t, e28, bdE x1, gO49 g1, gd_t, lt9_e, lt9_e, y1, lt9_e]
    exact z1
  · rw [w2 j h1, f2 j h1, rIw, uf_ne h2, x4 j h1, rIw, uf_ne h1]
  · rw [w2 28 (by omega), f2 28 (by omega), rIw, uf_at]
  · rw [w5 0 (by omega), f5 0 (.inl (by omega)), rIw_ne (by omega), x5]
  · unfold rw9
    by_cases e : r = 0
    · subst e
      rw [if_pos rfl, (w1.1 473 (by omega)).1, w5 _ (by omega)]
      have q := f3 x (by omega) hx
      rw [ek _ (by omega), er 473 (.inl rfl)] at q
      exact q
    · rw [if_neg e]
      have q := w3 (r - 1) (by omega) (by omega) x hx
      rw [show 476 + (r - 1) = 475 + r by omega, show r - 1 + 1 = r by omega, f5 _ (.inr (by omega)), ek _ (by omega), (f1.1 (475 + r) (by omega)).1, er (475 + r) (.inr (by omega))] at q
      exact q
