/-! L2: the reference's undo, image, restore: what is kept. -/
def IRr (n l len : Nat) (cs : Nat → Nat) (bk : List (Nat × Nat)) (y : Nat → Nat) (t : Nat) (pl rf : Int32) (ru : Nat → Int32) (m : Mm) : Prop :=
  (rI m 53 0 = ni n ∧ rI m 53 2 = ni l) ∧ RLc 49 54 len cs m ∧ (RLn 376 bk m ∧ rI m 49 27 = ni bk.length) ∧ RTp y t m ∧ rI m 49 3 = pl ∧ rI m 49 29 = rf ∧ (∀ i, i < 4 → rI m 51 i = ru i)
theorem IR_mk {n l len : Nat} {cs : Nat → Nat} {bk : List (Nat × Nat)} {y : Nat → Nat} {t : Nat} {pl rf : Int32} {ru : Nat → Int32} {pk ik : Nat} {jk : Nat → Nat} {ct : Nat → St} {m : Mm} (h : IRr n l len cs bk y t pl rf ru m) (st : StR pk ik jk ct m) : IR n l len cs bk y t pl rf ru pk ik jk ct m := ⟨h.1, h.2.1, h.2.2.1, h.2.2.2.1, h.2.2.2.2.1, h.2.2.2.2.2.1, h.2.2.2.2.2.2, st⟩
theorem IR_un {n l len : Nat} {cs : Nat → Nat} {bk : List (Nat × Nat)} {y : Nat → Nat} {t : Nat} {pl rf : Int32} {ru : Nat → Int32} {pk ik : Nat} {jk : Nat → Nat} {ct : Nat → St} {m : Mm} (h : IR n l len cs bk y t pl rf ru pk ik jk ct m) : IRr n l len cs bk y t pl rf ru m ∧ StR pk ik jk ct m :=
  ⟨⟨h.1, h.2.1, h.2.2.1, h.2.2.2.1, h.2.2.2.2.1, h.2.2.2.2.2.1, h.2.2.2.2.2.2.1⟩, h.2.2.2.2.2.2.2⟩
theorem IRr_e {n l len : Nat} {cs : Nat → Nat} {bk : List (Nat × Nat)} {y : Nat → Nat} {t : Nat} {pl rf rf' : Int32} {ru : Nat → Int32} {m m' : Mm} (hl : len ≤ 150) (hb : bk.length ≤ 6) (h : IRr n l len cs bk y t pl rf ru m) (w : ∀ b, (b = 50 ∨ b = 51 ∨ b = 53 ∨ (55 ≤ b ∧ b ≤ 214) ∨ (377 ≤ b ∧ b ≤ 382)) → rI m' b = rI m b) (w49 : ∀ j, j = 1 ∨ j = 3 ∨ j = 13 ∨ j = 27 → rI m' 49 j = rI m 49 j) (h29 : rI m' 49 29 = rf') : IRr n l len cs bk y t pl rf' ru m' := by
  obtain ⟨⟨a1, a2⟩, b1, ⟨c1, c2⟩, ⟨t1, t2, t3⟩, e1, e2, e3⟩ := h
  refine ⟨⟨by rw [w 53 (by omega)]; exact a1, by rw [w 53 (by omega)]; exact a2⟩, ?_, ⟨fun i hi => ?_, by rw [w49 27 (by omega)]; exact c2⟩, ⟨by rw [w49 1 (by omega)]; exact t1, t2, fun i hi => by rw [w 50 (by omega)]; exact t3 i hi⟩, by rw [w49 3 (by omega)]; exact e1, h29, fun i hi => by rw [w 51 (by omega)]; exact e3 i hi⟩
  · unfold RLc
    rw [w49 13 (by omega)]
    rcases b1 with b1 | ⟨b1, b2⟩
    · exact .inl b1
    · refine .inr ⟨b1, fun i hi => ?_⟩
      rw [w (54 + 1 + i) (by omega)]
      exact b2 i hi
  · rw [w (376 + 1 + i) (by omega)]
    exact c1 i hi
theorem sx_row {m : Mm} (g : G m) {i : Nat} (hi : i < 16) : (sH m)[476 + i]? = some (100, 968) := gS475 g hi
def Gz (m m' : Mm) : Prop := Fm (fun b => 49 ≤ b ∧ b ≤ 496) m m'
theorem Gz_0 (m : Mm) (j : Nat) (v : Int32) : Gz m (wI m 49 j v) := Fm_wI (Fm_refl _ _) (by omega)
theorem IR_0 {n l len : Nat} {cs : Nat → Nat} {bk : List (Nat × Nat)} {y : Nat → Nat} {t : Nat} {pl rf : Int32} {ru : Nat → Int32} {pk ik : Nat} {jk : Nat → Nat} {ct : Nat → St} {m : Mm} (v : Int32) (h : IR n l len cs bk y t pl rf ru pk ik jk ct m) : IR n l len cs bk y t pl rf ru pk ik jk ct (wI m 49 0 v) := by
  obtain ⟨⟨a1, a2⟩, b1, ⟨c1, c2⟩, ⟨t1, t2, t3⟩, e1, e2, e3, s1, s2, s3, s4⟩ := h
  have w : ∀ b, b ≠ 49 → rI (wI m 49 0 v) b = rI m b := fun b hb => rIw_ne hb
  have w49 : ∀ j, j ≠ 0 → rI (wI m 49 0 v) 49 j = rI m 49 j := fun j hj => by rw [rIw, uf_ne hj]
  refine ⟨⟨by rw [w 53 (by omega)]; exact a1, by rw [w 53 (by omega)]; exact a2⟩, ?_, ⟨fun i hi => ?_, by rw [w49 27 (by omega)]; exact c2⟩, ⟨by rw [w49 1 (by omega)]; exact t1, t2, fun i hi => by rw [w 50 (by omega)]; exact t3 i hi⟩, by rw [w49 3 (by omega)]; exact e1, by rw [w49 29 (by omega)]; exact e2, fun i hi => by rw [w 51 (by omega)]; exact e3 i hi, by rw [w49 28 (by omega)]; exact s1, by rw [w49 30 (by omega)]; exact s2, fun j hj => by rw [w (493 + j) (by omega)]; exact s3 j hj, fun u hu => ?_⟩
  · unfold RLc
    rw [w49 13 (by omega)]
    rcases b1 with b1 | ⟨b1, b2⟩
    · exact .inl b1
    · refine .inr ⟨b1, fun i hi => ?_⟩
      rw [w (54 + 1 + i) (by omega)]
      exact b2 i hi
  · rw [w (376 + 1 + i) (by omega)]
    exact c1 i hi
  · have z : rc9 u ≠ 49 := by
      unfold rc9
      split
      · omega
      · split <;> omega
    rw [w (rc9 u) z]
    exact s4 u hu
theorem r_undo {n l len : Nat} {cs : Nat → Nat} {bk : List (Nat × Nat)} {y : Nat → Nat} {t : Nat} {pl rf : Int32} {ru : Nat → Int32} {pk ik : Nat} {jk : Nat → Nat} {ct : Nat → St} {B : Nat} {m : Mm} (p : IP n l len cs bk pk ik jk ct B) (g : G m) (h : IR n l len cs bk y t pl rf ru pk ik jk ct m) :
    (pk = 0 → F_X12_undo 49 m = some (-1, wI m 49 0 0)) ∧ (∀ k, pk = k + 1 → ∃ m', F_X12_undo 49 m = some (ni k, m') ∧ IR n l len cs bk y t pl 0 ru k ik jk (ctU ct k) m' ∧ Gz m m') := by
  have h' := IR_0 0 h
  obtain ⟨hr, s1, s2, s3, s4⟩ := IR_un h'
  have g0 : G (wI m 49 0 0) := G_wI g
  refine ⟨fun e => ?_, fun k e => ?_⟩
  · subst e
    unfold F_X12_undo
    rw [gO49 g, gd_t, lt9_e, gO49 g0, gd_t, s1, if_pos (by decide)]
  · subst e
    have hk : k < 16 := by have := p.2.2.2.2.1; omega
    have k1 : ¬ ni (k + 1) = 0 := fun z => by
      rw [show (0 : Int32) = ni 0 from rfl, ni_eq (by omega) (by omega)] at z
      omega
    have k3 : ni (k + 1) - 1 = ni k := by
      rw [show (1 : Int32) = ni 1 from rfl, ni_sub (by omega), show k + 1 - 1 = k by omega]
    have g1 : G (wI (wI m 49 0 0) 49 28 (ni k)) := G_wI g0
    obtain ⟨m2, x1, x2, x3⟩ := r_cop (a := 475 + 1 + k) (b := 473) (m := wI (wI m 49 0 0) 49 28 (ni k)) (by omega) (gS475 g1 hk) ((g1.1 473 (by omega)).trans sx473)
    have g2 := G_fr x2 g1
    have w : ∀ b, b ≠ 49 → b ≠ 473 → rI (wI m2 49 29 0) b = rI (wI m 49 0 0) b := fun b h1 h2 => by
      rw [rIw_ne h1, (x2.1 b h2).1, rIw_ne h1]
    have w49 : ∀ j, j ≠ 28 → j ≠ 29 → rI (wI m2 49 29 0) 49 j = rI (wI m 49 0 0) 49 j := fun j h1 h2 => by
      rw [rIw, uf_ne h2, (x2.1 49 (by omega)).1, rIw, uf_ne h1]
    have e28 : rI (wI m2 49 29 0) 49 28 = ni k := by
      rw [rIw, uf_ne (by omega), (x2.1 49 (by omega)).1, rIw, uf_at]
    refine ⟨wI m2 49 29 0, ?_, IR_mk (IRr_e p.2.2.1.2.2.2 (BK_len p.2.2.2.1) hr (fun b hb => w b (by omega) (by omega)) (fun j hj => w49 j (by omega) (by omega)) (by rw [rIw, uf_at])) ⟨e28, by rw [w49 30 (by omega) (by omega)]; exact s2, fun j hj => by rw [w (493 + j) (by omega) (by omega)]; exact s3 j hj, fun u hu => ?_⟩, ?_⟩
    · have e1 : rI (wI (wI m 49 0 0) 49 28 (ni k)) 49 28 = ni k := by rw [rIw, uf_at]
      have g3 : G (wI m2 49 29 0) := G_wI g2
      unfold F_X12_undo
      rw [gO49 g, gd_t, lt9_e, gO49 g0, gd_t, s1, if_neg k1, gd_t, gd_t, lt9_e, k3, gO49 g1, gd_t, gR49_25 g1, oc_s, gd_t, e1, gA475 g1 hk, gd_t, ix_ni (by omega), gF475 g1 hk, oc_s, gd_t, gR49_23 g1, oc_s, bdE x1, gO49 g2, gd_t, lt9_e, gO49 g3, gd_t, e28]
    · unfold ctU
      by_cases e0 : u = 0
      · subst e0
        rw [if_pos rfl]
        refine RR_cp (s4 (2 + k) (Val_p (by omega))) (fun j hj => ?_)
        show rI (wI m2 49 29 0) 473 (0 + j) = rI (wI m 49 0 0) (rc9 (2 + k)) (ro9 (2 + k) + j)
        rw [rIw_ne (by omega), Nat.zero_add, x3 j hj, rIw_ne (by omega)]
        unfold rc9 ro9
        rw [if_neg (by omega), if_pos (by omega), if_pos (by omega), show 474 + (2 + k) = 475 + 1 + k by omega, Nat.zero_add]
      · rw [if_neg e0]
        have z := rc9_r p.2.2.2.2.1 p.2.2.2.2.2.1 (Val_le hu (by omega : k ≤ k + 1))
        have z2 : rc9 u ≠ 473 := by
          unfold rc9
          rw [if_neg e0]
          split <;> omega
        rw [w (rc9 u) (by omega) z2]
        exact s4 u (Val_le hu (by omega))
    · exact Fm_wI (Fm_trans (Fm_wI (Fm_wI (Fm_refl _ _) (by omega)) (by omega)) (Fm_mono (fun b z => by omega) x2)) (by omega)
theorem rc_n {u : Nat} (h : u = 0 ∨ (2 ≤ u ∧ u < 18)) : ∃ r, r < 17 ∧ rc9 u = rw9 r ∧ ro9 u = 0 ∧ r = u - 1 := by
  refine ⟨u - 1, by omega, ?_, ?_, rfl⟩
  · unfold rc9 rw9
    by_cases e : u = 0
    · rw [if_pos e, if_pos (by omega)]
    · rw [if_neg e, if_pos (by omega), if_neg (by omega)]
      omega
  · unfold ro9
    rw [if_pos (by omega)]
theorem r_image {n l len : Nat} {cs : Nat → Nat} {bk : List (Nat × Nat)} {y : Nat → Nat} {t : Nat} {pl rf : Int32} {ru : Nat → Int32} {pk ik : Nat} {jk : Nat → Nat} {ct : Nat → St} {B : Nat} {m : Mm} (p : IP n l len cs bk pk ik jk ct B) (g : G m) (h : IR n l len cs bk y t pl rf ru pk ik jk ct m) :
    (ik = 3 → F_X12_image 49 m = some (-1, wI m 49 0 0)) ∧ (ik < 3 → ∃ m', F_X12_image 49 m = some (ni (ik + 1), m') ∧ IR n l len cs bk y t pl rf ru pk (ik + 1) (uf jk ik pk) (ctI ct ik) m' ∧ Gz m m') := by
  have h' := IR_0 0 h
  obtain ⟨hr, s1, s2, s3, s4⟩ := IR_un h'
  have g0 : G (wI m 49 0 0) := G_wI g
  have hp := p.2.2.2.2.1
  refine ⟨fun e => ?_, fun hik => ?_⟩
  · subst e
    unfold F_X12_image
    rw [gO49 g, gd_t, lt9_e, gO49 g0, gd_t, s2, if_pos (by decide)]
  · have k1 : ¬ ni ik = 3 := fun z => by
      rw [show (3 : Int32) = ni 3 from rfl, ni_eq (by omega) (by omega)] at z
      omega
    have kp : ni ik + 1 = ni (ik + 1) := ni_add ik 1
    obtain ⟨m1, x1, x2, x3, x4, x5, x6⟩ := r_putsAll (kq := 492 + 1 + ik) (b := false) (m := wI m 49 0 0) (by omega) g0
    have g1 := G_fr x2 g0
    have iff : ∀ (a b : Int32), (if (false = true) then a else b) = b := fun a b => if_neg (by decide)
    rw [iff] at x4 x5
    have e30 : rI m1 49 30 = ni ik := by rw [x3 30 (by omega) (by omega)]; exact s2
    have w : ∀ b, b ≠ 49 → b ≠ 492 + 1 + ik → b ≠ 473 → ¬ (476 ≤ b ∧ b ≤ 491) → rI (wI m1 49 30 (ni (ik + 1))) b = rI (wI m 49 0 0) b := fun b h1 h2 h3 h4 => by
      rw [rIw_ne h1, (x2.1 b (by omega)).1]
    have w49 : ∀ j, j ≠ 28 → j ≠ 30 → j ≠ 31 → rI (wI m1 49 30 (ni (ik + 1))) 49 j = rI (wI m 49 0 0) 49 j := fun j h1 h2 h3 => by
      rw [rIw, uf_ne h2, x3 j h3 h1]
    refine ⟨wI m1 49 30 (ni (ik + 1)), ?_, IR_mk (IRr_e p.2.2.1.2.2.2 (BK_len p.2.2.2.1) hr (fun b hb => w b (by omega) (by omega) (by omega) (by omega)) (fun j hj => w49 j (by omega) (by omega) (by omega)) (by rw [w49 29 (by omega) (by omega) (by omega)]; exact hr.2.2.2.2.2.1)) ⟨?_, by rw [rIw, uf_at], fun j hj => ?_, fun u hu => ?_⟩, ?_⟩
    · rw [b2i_f] at x1
      have g2 : G (wI m1 49 30 (ni (ik + 1))) := G_wI g1
      have e9 : rI (wI m1 49 30 (ni (ik + 1))) 49 30 = ni (ik + 1) := by rw [rIw, uf_at]
      unfold F_X12_image
      rw [gO49 g, gd_t, lt9_e, gO49 g0, gd_t, s2, if_neg k1, gd_t, gR49_26 g0, oc_s, gd_t, gA492 g0 hik, gd_t, ix_ni (by omega), gF492 g0 hik, oc_s, gd_t, bdE x1, gO49 g1, gd_t, gd_t, lt9_e, e30, kp, gO49 g2, gd_t, e9]
    · rw [rIw, uf_ne (by omega), x4]
      exact s1
    · rw [uf_ap]
      by_cases e : j = ik
      · rw [if_pos e, e, rIw_ne (by omega), show 493 + ik = 492 + 1 + ik by omega, x5]
        exact s1
      · rw [if_neg e, w (493 + j) (by omega) (by omega) (by omega) (by omega)]
        exact s3 j (by omega)
    · have old : ∀ v, Val pk ik jk v → (v - 18) / 17 ≠ ik ∨ v < 18 → RR (fun k => rI (wI m1 49 30 (ni (ik + 1))) (rc9 v) (ro9 v + k)) (ct v) := fun v hv hv2 => by
        have hv0 := hv
        rcases hv0 with hv' | hv' | ⟨v1, v2, v3⟩
        · obtain ⟨r, r1, r2, r3, r4⟩ := rc_n (.inl hv')
          refine RR_cp (s4 v hv) (fun j hj => ?_)
          have q := (x6 r r1 j hj).1
          rw [iff] at q
          rw [r2, r3, Nat.zero_add, rIw_ne (by unfold rw9; split <;> omega), q]
        · obtain ⟨r, r1, r2, r3, r4⟩ := rc_n (u := v) (.inr (by omega))
          refine RR_cp (s4 v hv) (fun j hj => ?_)
          have q := (x6 r r1 j hj).1
          rw [iff] at q
          rw [r2, r3, Nat.zero_add, rIw_ne (by unfold rw9; split <;> omega), q]
        · have e : rc9 v = 493 + (v - 18) / 17 := by
            unfold rc9
            rw [if_neg (by omega), if_neg (by omega)]
          have q := s4 v hv
          rw [w (rc9 v) (by omega) (by omega) (by omega) (by omega)]
          exact q
      have fresh : ∀ r, r < 17 → ∀ v, Val pk ik jk v → (v = 0 ∧ r = 0 ∨ v = 1 + r ∧ 0 < r) → RR (fun k => rI (wI m1 49 30 (ni (ik + 1))) (492 + 1 + ik) (1 + 968 * r + k)) (ct v) := fun r hr' v hv hvr => by
        obtain ⟨r', r1, r2, r3, r4⟩ := rc_n (u := v) (by omega)
        have e : r' = r := by omega
        subst e
        refine RR_cp (s4 v hv) (fun j hj => ?_)
        have q := (x6 r' r1 j hj).2
        rw [iff] at q
        rw [r2, r3, Nat.zero_add, rIw_ne (by omega), q]
      unfold ctI
      rcases hu with hu | hu | ⟨u1, u2, u3⟩
      · rw [if_neg (by omega), if_neg (by omega)]
        exact old u (.inl hu) (.inr (by omega))
      · rw [if_neg (by omega), if_neg (by omega)]
        exact old u (.inr (.inl hu)) (.inr (by omega))
      · rw [uf_ap] at u3
        by_cases e3 : (u - 18) / 17 = ik
        · rw [if_pos e3] at u3
          have e : rc9 u = 492 + 1 + ik := by
            unfold rc9
            rw [if_neg (by omega), if_neg (by omega)]
            omega
          have eo : ro9 u = 1 + 968 * ((u - 18) % 17) := by
            unfold ro9
            rw [if_neg (by omega)]
          rw [e, eo]
          by_cases e4 : u = 18 + 17 * ik
          · rw [if_pos e4]
            exact fresh _ (by omega) 0 (.inl rfl) (.inl ⟨rfl, by omega⟩)
          · rw [if_neg e4, if_pos (by omega)]
            exact fresh _ (by omega) _ (Val_p (by omega)) (.inr ⟨by omega, by omega⟩)
        · rw [if_neg e3] at u3
          rw [if_neg (by omega), if_neg (by omega)]
          exact old u (.inr (.inr ⟨u1, by omega, u3⟩)) (.inl e3)
    · exact Fm_wI (Fm_trans (Gz_0 m 0 0) (Fm_mono (fun b z => by omega) x2)) (by omega)
theorem r_restore {n l len : Nat} {cs : Nat → Nat} {bk : List (Nat × Nat)} {y : Nat → Nat} {t : Nat} {pl rf : Int32} {ru : Nat → Int32} {pk ik : Nat} {jk : Nat → Nat} {ct : Nat → St} {B : Nat} {m : Mm} (p : IP n l len cs bk pk ik jk ct B) (g : G m) (h : IR n l len cs bk y t pl rf ru pk ik jk ct m) :
    (ik = 0 → F_X12_restore 49 m = some (-1, wI m 49 0 0)) ∧ (∀ j, ik = j + 1 → ∃ m', F_X12_restore 49 m = some (ni j, m') ∧ IR n l len cs bk y t pl 0 ru (jk j) j jk (ctR ct j) m' ∧ Gz m m') := by
  have h' := IR_0 0 h
  obtain ⟨hr, s1, s2, s3, s4⟩ := IR_un h'
  have g0 : G (wI m 49 0 0) := G_wI g
  refine ⟨fun e => ?_, fun j e => ?_⟩
  · subst e
    unfold F_X12_restore
    rw [gO49 g, gd_t, lt9_e, gO49 g0, gd_t, s2, if_pos (by decide)]
  · subst e
    have hj : j < 3 := by have := p.2.2.2.2.2.1; omega
    have hjk := p.2.2.2.2.2.2.1 j (by omega)
    have k1 : ¬ ni (j + 1) = 0 := fun z => by
      rw [show (0 : Int32) = ni 0 from rfl, ni_eq (by omega) (by omega)] at z
      omega
    have k3 : ni (j + 1) - 1 = ni j := by
      rw [show (1 : Int32) = ni 1 from rfl, ni_sub (by omega), show j + 1 - 1 = j by omega]
    have g1 : G (wI (wI m 49 0 0) 49 30 (ni j)) := G_wI g0
    obtain ⟨m1, x1, x2, x3, x4, x5, x6⟩ := r_putsAll (kq := 492 + 1 + j) (b := true) (m := wI (wI m 49 0 0) 49 30 (ni j)) (by omega) g1
    have g2 := G_fr x2 g1
    have ift : ∀ (a b : Int32), (if (true = true) then a else b) = a := fun a b => if_pos rfl
    rw [ift] at x4 x5
    have q1 : rI (wI (wI m 49 0 0) 49 30 (ni j)) (492 + 1 + j) = rI (wI m 49 0 0) (492 + 1 + j) := rIw_ne (by omega)
    have e30 : rI (wI m1 49 29 0) 49 30 = ni j := by rw [rIw, uf_ne (by omega), x3 30 (by omega) (by omega), rIw, uf_at]
    have w : ∀ b, b ≠ 49 → b ≠ 492 + 1 + j → b ≠ 473 → ¬ (476 ≤ b ∧ b ≤ 491) → rI (wI m1 49 29 0) b = rI (wI m 49 0 0) b := fun b h1 h2 h3 h4 => by
      rw [rIw_ne h1, (x2.1 b (by omega)).1, rIw_ne h1]
    have w49 : ∀ z, z ≠ 28 → z ≠ 29 → z ≠ 30 → z ≠ 31 → rI (wI m1 49 29 0) 49 z = rI (wI m 49 0 0) 49 z := fun z h1 h2 h3 h4 => by
      rw [rIw, uf_ne h2, x3 z h4 h1, rIw, uf_ne h3]
    refine ⟨wI m1 49 29 0, ?_, IR_mk (IRr_e p.2.2.1.2.2.2 (BK_len p.2.2.2.1) hr (fun b hb => w b (by omega) (by omega) (by omega) (by omega)) (fun z hz => w49 z (by omega) (by omega) (by omega) (by omega)) (by rw [rIw, uf_at])) ⟨?_, e30, fun z hz => ?_, fun u hu => ?_⟩, ?_⟩
    · rw [b2i_t] at x1
      have e1 : rI (wI (wI m 49 0 0) 49 30 (ni j)) 49 30 = ni j := by rw [rIw, uf_at]
      have g3 : G (wI m1 49 29 0) := G_wI g2
      unfold F_X12_restore
      rw [gO49 g, gd_t, lt9_e, gO49 g0, gd_t, s2, if_neg k1, gd_t, gd_t, lt9_e, k3, gO49 g1, gd_t, gR49_26 g1, oc_s, gd_t, e1, gA492 g1 hj, gd_t, ix_ni (by omega), gF492 g1 hj, oc_s, gd_t, bdE x1, gO49 g2, gd_t, lt9_e, gO49 g3, gd_t, e30]
    · rw [rIw, uf_ne (by omega), x4, q1, show 492 + 1 + j = 493 + j by omega]
      exact s3 j (by omega)
    · rw [w (493 + z) (by omega) (by omega) (by omega) (by omega)]
      exact s3 z (by omega)
    · unfold ctR
      have back : ∀ v, v = 0 ∨ (2 ≤ v ∧ v < 2 + jk j) → RR (fun k => rI (wI m1 49 29 0) (rc9 v) (ro9 v + k)) (ct (18 + 17 * j + (v - 1))) := fun v hv => by
        obtain ⟨r, r1, r2, r3, r4⟩ := rc_n (u := v) (by omega)
        have hv2 : Val pk (j + 1) jk (18 + 17 * j + (v - 1)) := by
          by_cases e0 : v = 0
          · rw [e0]
            exact Val_i (by omega)
          · rw [show v - 1 = 1 + (v - 2) by omega]
            exact Val_q (by omega) (by omega) (by omega)
        refine RR_cp (s4 _ hv2) (fun x hx => ?_)
        have q := (x6 r r1 x hx).1
        rw [ift, q1] at q
        have e1 : rc9 (18 + 17 * j + (v - 1)) = 492 + 1 + j := by
          unfold rc9
          rw [if_neg (by omega), if_neg (by omega)]
          omega
        have e2 : ro9 (18 + 17 * j + (v - 1)) = 1 + 968 * r := by
          unfold ro9
          rw [if_neg (by omega), show (18 + 17 * j + (v - 1) - 18) % 17 = r by omega]
        rw [r2, r3, Nat.zero_add, rIw_ne (by unfold rw9; split <;> omega), q, e1, e2]
      rcases hu with hu | hu | ⟨u1, u2, u3⟩
      · rw [if_pos hu]
        have z := back u (.inl hu)
        rw [show 18 + 17 * j + (u - 1) = 18 + 17 * j by omega] at z
        exact z
      · rw [if_neg (by omega), if_pos (by omega)]
        have z := back u (.inr hu)
        rw [show 18 + 17 * j + (u - 1) = 19 + 17 * j + (u - 2) by omega] at z
        exact z
      · rw [if_neg (by omega), if_neg (by omega)]
        have e : rc9 u = 493 + (u - 18) / 17 := by
          unfold rc9
          rw [if_neg (by omega), if_neg (by omega)]
        have q := s4 u (.inr (.inr ⟨u1, by omega, u3⟩))
        rw [w (rc9 u) (by omega) (by omega) (by omega) (by omega)]
        exact q
    · exact Fm_wI (Fm_trans (Fm_wI (Gz_0 m 0 0) (by omega)) (Fm_mono (fun b z => by omega) x2)) (by omega)
