/-! L2: texts: what both do ahead; the book. -/
def txt (t most : Nat) (a : Int32) : Prop := ∃ x, a = ni x ∧ x ≤ t ∧ x ≤ most
theorem txt_w {t most : Nat} {a : Int32} (ht : t ≤ 600) (hm : most ≤ 600) : (¬ a < 0 ∧ ¬ mnI (ni most) (ni t) < a) ↔ txt t most a := by
  rw [mn_ni (by omega) (by omega)]
  constructor
  · intro h
    refine ⟨ix a, nx_of h.1, ?_, ?_⟩
    · have z := h.2
      rw [nx_of h.1, ni_lt (by split <;> omega) (ix_B a)] at z
      split at z <;> omega
    · have z := h.2
      rw [nx_of h.1, ni_lt (by split <;> omega) (ix_B a)] at z
      split at z <;> omega
  · rintro ⟨x, rfl, h1, h2⟩
    refine ⟨fun z => (ni_lt0 (by omega)).mp z, fun z => ?_⟩
    rw [ni_lt (by split <;> omega) (by omega)] at z
    split at z <;> omega
theorem needT_ok {m : Mm} {t most : Nat} {a : Int32} (g : G m) (h : rI m 1 1 = ni t) (ht : t ≤ 600) (hm : most ≤ 600) (hx : txt t most a) : F_X11_needText 0 a (ni most) m = some (.inl (), m) := by
  have w := wth a 0 (mnI (ni most) (ni t)) m
  rw [decide_eq_true ((txt_w ht hm).mpr hx), b2i_t] at w
  have k1 : F_X11_need 0 1 m = some (.inl (), m) := c_need1
  unfold F_X11_needText
  simp only [gO0 g, gd_t, gR0_0 g, oc_s, gO1 g, h, bdE w, bxL k1]
theorem needT_no {m : Mm} {t most : Nat} {a : Int32} (g : G m) (h : rI m 1 1 = ni t) (ht : t ≤ 600) (hm : most ≤ 600) (hx : ¬ txt t most a) (hN : mN m + 1 < K9) : F_X11_needText 0 a (ni most) m = some (.inr 1, nw (wI m 48 1 (rI m 48 1 + 1)) 50 6) := by
  have w := wth a 0 (mnI (ni most) (ni t)) m
  rw [decide_eq_false (fun z => hx ((txt_w ht hm).mp z)), b2i_f] at w
  have k1 := need_f g hN
  rw [b2i_f] at k1
  unfold F_X11_needText
  simp only [gO0 g, gd_t, gR0_0 g, oc_s, gO1 g, h, bdE w, bxR k1]
theorem c_open {m : Mm} {y : Nat → Nat} {t x : Nat} (g : G m) (c : CTp y t m) (hx : x ≤ t) : ∃ m1, F_X9_open 1 (ni x) m = some ((), m1) ∧ TC y x m1 ∧ rI m1 1 3 = ni 0 ∧ rI m1 1 1 = ni 0 ∧ rI m1 1 7 = -1 ∧ Fm (fun b => b = 1) m m1 := by
  have ht := c.2.1
  have e : mnI (ni x) (rI m 1 1) = ni x := by
    rw [c.1, mn_ni (by omega) (by omega), if_neg (by omega)]
  have f : Fm (fun b => b = 1) m (wI (wI (wI (wI (wI m 1 2 (ni x)) 1 1 0) 1 3 0) 1 6 0) 1 7 (-1)) := Fm_wI (Fm_wI (Fm_wI (Fm_wI (Fm_wI (Fm_refl _ _) rfl) rfl) rfl) rfl) rfl
  refine ⟨_, ?_, ⟨G_fr f g, by omega, ?_, fun i hi => ?_⟩, ?_, ?_, ?_, f⟩
  · unfold F_X9_open
    have o1 : okO (wI m 1 2 (ni x)) 1 9 = true := gO1 (G_wI g)
    have o2 : okO (wI (wI m 1 2 (ni x)) 1 1 0) 1 9 = true := gO1 (G_wI (G_wI g))
    have o3 : okO (wI (wI (wI m 1 2 (ni x)) 1 1 0) 1 3 0) 1 9 = true := gO1 (G_wI (G_wI (G_wI g)))
    have o4 : okO (wI (wI (wI (wI m 1 2 (ni x)) 1 1 0) 1 3 0) 1 6 0) 1 9 = true := gO1 (G_wI (G_wI (G_wI (G_wI g))))
    rw [gO1 g, gd_t, gd_t, lt9_e, e, o1, gd_t, lt9_e, o2, gd_t, lt9_e, o3, gd_t, lt9_e, o4, gd_t, lt9_e]
  · simp (disch := omega) only [rIw, uf_ap, if_neg, if_pos, if_true]
  · have z := c.2.2 i (by omega)
    rw [(f.1 2 (by omega)).1]
    exact z
  · simp (disch := omega) only [rIw, uf_ap, if_neg, if_pos, if_true]
    first | done | rfl
  · simp (disch := omega) only [rIw, uf_ap, if_neg, if_pos, if_true]
    first | done | rfl
  · simp (disch := omega) only [rIw, uf_ap, if_neg, if_pos, if_true]
theorem CTp_0 {y : Nat → Nat} {m : Mm} (h : rI m 1 1 = ni 0) : CTp y 0 m := ⟨h, by omega, fun i hi => by omega⟩
theorem RTp_0 {y : Nat → Nat} {m : Mm} (h : rI m 49 1 = ni 0) : RTp y 0 m := ⟨h, by omega, fun i hi => by omega⟩
/-! rows laid over -/
def LyS (a b N : Nat) (m : Mm) : Prop := (sH m)[a]? = some (106, N) ∧ (sH m)[b]? = some (106, N) ∧ (∀ i, i < N → rR m a i = some (a + 1 + i) ∧ rR m b i = some (b + 1 + i) ∧ (sH m)[a + 1 + i]? = some (100, 2) ∧ (sH m)[b + 1 + i]? = some (100, 2))
theorem LyS_fr {a b N : Nat} {A : Nat → Prop} {m m' : Mm} (f : Fm A m m') (h : LyS a b N m) : LyS a b N m' := by
  unfold LyS
  rw [f.2.1, f.2.2.1]
  exact h
theorem r_lay2 {K : Nat → Nat → Int32 → Int32 → Mm → Option (Unit × Mm)} {a b N i : Nat} {v : Int32} {m : Mm} (hN : N ≤ 200) (h : LyS a b N m) (hi : i < N) (hab : a + 1 + i ≠ b + 1 + i) : L_X12_lays_10 K NF a b v (ni i) 0 m = K a b v (ni i) (wI (wI m (b + 1 + i) 0 (rI m (a + 1 + i) 0)) (b + 1 + i) 1 (rI m (a + 1 + i) 1)) := by
  obtain ⟨h1, h2, h3⟩ := h
  obtain ⟨q1, q2, q3, q4⟩ := h3 i hi
  have o1 := okA_of h2 hi (by omega)
  have o2 := okA_of h1 hi (by omega)
  have xi : ix (ni i) = i := ix_ni (by omega)
  have x0 : ix (0 : Int32) = 0 := by decide
  have x1 : ix (1 : Int32) = 1 := by decide
  have e0 : (ni 2 ≤ (0 : Int32)) = False := eq_false (by decide)
  have e1 : (ni 2 ≤ (1 : Int32)) = False := eq_false (by decide)
  have e2 : (ni 2 ≤ (2 : Int32)) = True := eq_true (by decide)
  have a01 : (0 : Int32) + 1 = 1 := by decide
  have a12 : (1 : Int32) + 1 = 2 := by decide
  have p0 : okA m 100 (a + 1 + i) 0 = true := okA_of (i := 0) q3 (by omega) (by omega)
  have p1 : okA m 100 (a + 1 + i) 1 = true := okA_of (i := 1) q3 (by omega) (by omega)
  have r0 : okA m 100 (b + 1 + i) 0 = true := okA_of (i := 0) q4 (by omega) (by omega)
  have r1 : okA m 100 (b + 1 + i) 1 = true := okA_of (i := 1) q4 (by omega) (by omega)
  have ln2 := ln_of q4
  have t2 := okT_of q4
  have w1 : rI (wI m (b + 1 + i) 0 (rI m (a + 1 + i) 0)) (a + 1 + i) 1 = rI m (a + 1 + i) 1 := by rw [rIw_ne hab]
  rw [show NF = 99997 + 1 + 1 + 1 from rfl, L_X12_lays_10]
  simp only [o1, gd_t, xi, q2, oc_s, t2, ln2, e0, if_false, o2, q1, x0, p0, r0, lt9_e, a01]
  rw [L_X12_lays_10]
  simp only [okAwI, okTwI, lnwI, rRwI, o1, gd_t, xi, q2, oc_s, t2, ln2, e1, if_false, o2, q1, x1, p1, r1, lt9_e, a12, w1]
  rw [L_X12_lays_10]
  simp only [okAwI, okTwI, lnwI, rRwI, o1, gd_t, xi, q2, oc_s, t2, ln2, e2, if_true]
theorem r_layL {a b N many : Nat} (hN : N ≤ 200) (hm : many ≤ N) (hab : a + 1 + N ≤ b ∨ b + 1 + N ≤ a) : ∀ (d i fuel : Nat) (m : Mm), i + d = many → d < fuel → LyS a b N m →
    ∃ m', L_X12_lays_2 fuel a b (ni many) (ni i) m = some ((), m') ∧ Fm (fun c => b + 1 + i ≤ c ∧ c < b + 1 + many) m m' ∧ ∀ z, i ≤ z → z < many → ∀ j, j < 2 → rI m' (b + 1 + z) j = rI m (a + 1 + z) j := by
  intro d
  induction d with
  | zero =>
    intro i fuel m hd hf h
    obtain ⟨fuel, rfl⟩ : ∃ z, fuel = z + 1 := ⟨fuel - 1, by omega⟩
    have e : ni many ≤ ni i := by
      rw [ni_le (by omega) (by omega)]
      omega
    refine ⟨m, ?_, Fm_refl _ _, fun z h1 h2 => by omega⟩
    rw [L_X12_lays_2, if_pos e]
  | succ d ih =>
    intro i fuel m hd hf h
    obtain ⟨fuel, rfl⟩ : ∃ z, fuel = z + 1 := ⟨fuel - 1, by omega⟩
    have e : ¬ ni many ≤ ni i := by
      rw [ni_le (by omega) (by omega)]
      omega
    have f1 : Fm (fun c => c = b + 1 + i) m (wI (wI m (b + 1 + i) 0 (rI m (a + 1 + i) 0)) (b + 1 + i) 1 (rI m (a + 1 + i) 1)) := Fm_wI (Fm_wI (Fm_refl _ _) rfl) rfl
    obtain ⟨m', y1, y2, y3⟩ := ih (i + 1) fuel _ (by omega) (by omega) (LyS_fr f1 h)
    refine ⟨m', ?_, Fm_trans (Fm_mono (fun c z => by omega) f1) (Fm_mono (fun c z => by omega) y2), fun z h1 h2 j hj => ?_⟩
    · rw [L_X12_lays_2, if_neg e, lt9_e, r_lay2 hN h (by omega) (by omega), lt9_e, show ni i + 1 = ni (i + 1) from ni_add i 1]
      exact y1
    · by_cases ez : z = i
      · subst ez
        rw [(y2.1 (b + 1 + z) (by omega)).1, rIw, rIw]
        have : j = 0 ∨ j = 1 := by omega
        rcases this with rfl | rfl
        · rw [uf_ne (by omega), uf_at]
        · rw [uf_at]
      · rw [y3 z (by omega) h2 j hj, (f1.1 (a + 1 + z) (by omega)).1]
theorem r_lays {a b N many : Nat} {m : Mm} (hN : N ≤ 200) (hm : many ≤ N) (hab : a + 1 + N ≤ b ∨ b + 1 + N ≤ a) (h : LyS a b N m) : ∃ m', F_X12_lays a b (ni many) m = some ((), m') ∧ Fm (fun c => b + 1 ≤ c ∧ c < b + 1 + many) m m' ∧ ∀ z, z < many → ∀ j, j < 2 → rI m' (b + 1 + z) j = rI m (a + 1 + z) j := by
  obtain ⟨m', y1, y2, y3⟩ := r_layL hN hm hab many 0 NF m (by omega) (by unfold NF; omega) h
  refine ⟨m', ?_, y2, fun z hz j hj => y3 z (by omega) hz j hj⟩
  unfold F_X12_lays
  rw [lt9_e]
  exact y1
theorem Ly_book {m : Mm} (g : G m) : LyS 383 376 6 m := ⟨(g.1 383 (by omega)).trans sx383, (g.1 376 (by omega)).trans sx376, fun i hi => ⟨gF383 g hi, gF376 g hi, gS383 g hi, gS376 g hi⟩⟩
theorem Ly_law {m : Mm} (g : G m) : LyS 215 54 160 m := ⟨(g.1 215 (by omega)).trans sx215, (g.1 54 (by omega)).trans sx54, fun i hi => ⟨gF215 g hi, gF54 g hi, gS215 g hi, gS54 g hi⟩⟩
/-! the book -/
theorem bkP_b {x : Nat → Nat} {n N a : Nat} (ha : a ≤ n) (f : Nat) (l : List (Nat × Nat)) : bkP x n N (f + 1) l (blk x n a) = bkP x n N (f + 1) l a := by
  rw [bkP, bkP, blk_blk ha]
theorem c_bookF {n l len : Nat} {cs : Nat → Nat} {bk : List (Nat × Nat)} {y : Nat → Nat} {t : Nat} {pl rf : Int32} {ru : Nat → Int32} {pk ik : Nat} {jk : Nat → Nat} {ct : Nat → St} {B x : Nat} {m : Mm} (p : IP n l len cs bk pk ik jk ct B) (h : IC n l len cs bk y t pl rf ru pk ik jk ct m) (hx : x ≤ t) (h60 : x ≤ 60) : (∀ bk', bkP y x n 7 [] 0 = .inl bk' → ∃ m1, F_X11_book 0 (ni x) m = some (.inl (ni bk'.length), m1) ∧ IC n l len cs bk' y 0 (-1) rf ru pk ik jk ct m1 ∧ Gc m m1 ∧ BK n bk') ∧ (∀ q s, bkP y x n 7 [] 0 = .inr (q, s) → ∃ m1, F_X11_book 0 (ni x) m = some (.inl (ni q - 10), m1) ∧ IC n l len cs bk y 0 (ni s) rf ru pk ik jk ct m1 ∧ Gc m m1) := by
  have g := h.1
  have ct1 := h.2.2.2.2.2.1
  have hn := p.1
  have k1 : F_X11_needText 0 (ni x) 60 m = some (.inl (), m) := needT_ok (most := 60) g ct1.1 ct1.2.1 (by omega) ⟨x, rfl, hx, h60⟩
  obtain ⟨m1, x1, x2, x3, x4, x5, x6⟩ := c_open g ct1 hx
  have g1 := x2.1
  have h1 : IC n l len cs bk y 0 (-1) rf ru pk ik jk ct m1 := IC_T p h x6 (fun b z => .inl z) (CTp_0 x4) x5
  have e3 : rI m1 3 0 = ni n := h1.2.2.1.1
  obtain ⟨z1, z2⟩ := c_bk (N := n) x2 x3 hn
  refine ⟨fun bk' hb => ?_, fun q s hb => ?_⟩
  · obtain ⟨m2, y1, y2, y3⟩ := z1 bk' hb
    have f2 : Fm (fun b => b = 1) m1 m2 := y2.1
    have h2 : IC n l len cs bk y 0 (-1) rf ru pk ik jk ct m2 := IC_T p h1 f2 (fun b z => .inl z) (CTp_0 (by rw [y2.2 1 (by omega)]; exact x4)) (by rw [y2.2 7 (by omega)]; exact x5)
    have g2 := h2.1
    have f3 : Fm (fun b => b = 12) m2 (wI (wI (wI m2 12 0 (ni bk'.length)) 12 1 (nmB bk')) 12 2 (inB bk')) := Fm_wI (Fm_wI (Fm_wI (Fm_refl _ _) rfl) rfl) rfl
    have w : ∀ b, b ≠ 12 → rI (wI (wI (wI m2 12 0 (ni bk'.length)) 12 1 (nmB bk')) 12 2 (inB bk')) b = rI m2 b := fun b hb => (f3.1 b hb).1
    have e12 : rI (wI (wI (wI m2 12 0 (ni bk'.length)) 12 1 (nmB bk')) 12 2 (inB bk')) 12 0 = ni bk'.length := by
      simp (disch := omega) only [rIw, uf_ap, if_neg, if_pos, if_true]
    have g3 := G_fr f3 g2
    refine ⟨_, ?_, IC_st p h2 f3 (fun b z => by unfold reg; omega) (by rw [w 0 (by omega)]) ?_, ?_, y3⟩
    · unfold F_X11_book
      simp only [gO0 g, gd_t, bxL k1, gR0_0 g, oc_s, gO1 g, bdE x1, gO0 g1, gR0_4 g1, gR0_0 g1, gR0_1 g1, gO3 g1, gO12 g1, e3, bdE y1, ↓i10, gO0 g3, gR0_4 g3, gO12 g3, e12]
    · obtain ⟨⟨a1, a2⟩, ⟨qc, qd, q1, q2, q3⟩, -, ⟨t1, t2, t3⟩, e1, e2, e3⟩ := (IC_un h2).2.2.1
      refine ⟨⟨by rw [w 3 (by omega)]; exact a1, by rw [w 3 (by omega)]; exact a2⟩, ⟨qc, qd, q1, q2, LC_e q3 rfl rfl (w 4 (by omega)) (w qc (by omega))⟩, ⟨e12, ?_, ?_⟩, ⟨by rw [w 1 (by omega)]; exact t1, t2, fun i hi => by rw [w 2 (by omega)]; exact t3 i hi⟩, by rw [w 1 (by omega)]; exact e1, by rw [w 0 (by omega)]; exact e2, fun i hi => by rw [w 48 (by omega)]; exact e3 i hi⟩
      · simp (disch := omega) only [rIw, uf_ap, if_neg, if_pos, if_true]
      · simp (disch := omega) only [rIw, uf_ap, if_neg, if_pos, if_true]
    · exact Gc_m (Fm_trans (Fm_mono (B := fun b => b = 1 ∨ b = 12) (fun b z => .inl z) x6) (Fm_trans (Fm_mono (fun b z => .inl z) f2) (Fm_mono (fun b z => .inr z) f3))) (fun b z => by unfold CZ; omega)
  · obtain ⟨m2, y1, y2⟩ := z2 q s hb
    have f2 : Fm (fun b => b = 1) m1 m2 := y2.1
    have h2 : IC n l len cs bk y 0 (ni s) rf ru pk ik jk ct m2 := IC_T p h1 f2 (fun b z => .inl z) (CTp_0 (by rw [y2.2.1 1 (by omega)]; exact x4)) y2.2.2.2
    have g2 := h2.1
    refine ⟨m2, ?_, h2, Gc_m (Fm_trans x6 f2) (fun b z => by unfold CZ; omega)⟩
    unfold F_X11_book
    simp only [gO0 g, gd_t, bxL k1, gR0_0 g, oc_s, gO1 g, bdE x1, gO0 g1, gR0_4 g1, gR0_0 g1, gR0_1 g1, gO3 g1, gO12 g1, e3, bdE y1, ↓i00, if_true, gO0 g2, gR0_0 g2, gO1 g2, y2.2.2.1]
theorem txt_in {t most x : Nat} (hx : x ≤ t) (ht : t ≤ 600) : (¬ ni x < 0 ∧ ¬ ni t < ni x) := ⟨fun z => (ni_lt0 (by omega)).mp z, fun z => by rw [ni_lt (by omega) (by omega)] at z; omega⟩
/-- the reference's refusal of a text -/
theorem txt_no {t most : Nat} {a : Int32} (ht : t ≤ 600) (hm : most ≤ 600) (h : ¬ txt t most a) : ¬ (¬ a < 0 ∧ ¬ ni t < a) ∨ ((¬ a < 0 ∧ ¬ ni t < a) ∧ ¬ a ≤ ni most) := by
  by_cases q : ¬ a < 0 ∧ ¬ ni t < a
  · refine .inr ⟨q, fun z => h ⟨ix a, nx_of q.1, ?_, ?_⟩⟩
    · have z2 := q.2
      rw [nx_of q.1, ni_lt (by omega) (ix_B a)] at z2
      omega
    · rw [nx_of q.1, ni_le (ix_B a) (by omega)] at z
      omega
  · exact .inl q
theorem r_endF {m : Mm} {k s : Nat} (g : G m) (h5 : rI m 49 5 = ni k) (h6 : rI m 49 6 = ni s) : F_X12_ends 49 m = some (ni k - 10, wI m 49 3 (ni s)) := by
  have o : okO (wI m 49 3 (ni s)) 49 12 = true := gO49 (G_wI g)
  have e : rI (wI m 49 3 (ni s)) 49 5 = ni k := by rw [rIw, uf_ne (by omega)]; exact h5
  unfold F_X12_ends
  rw [gO49 g, gd_t, gd_t, lt9_e, h6, o, gd_t, e]
theorem k_n0 {k : Nat} (h0 : k ≠ 0) (h4 : k < 4) : (ni k = 0) = False := eq_false (fun z => by rw [show (0 : Int32) = ni 0 from rfl, ni_eq (by omega) (by omega)] at z; exact h0 z)
theorem r_bookF {n l len : Nat} {cs : Nat → Nat} {bk : List (Nat × Nat)} {y : Nat → Nat} {t : Nat} {pl rf : Int32} {ru : Nat → Int32} {pk ik : Nat} {jk : Nat → Nat} {ct : Nat → St} {B x : Nat} {m : Mm} (p : IP n l len cs bk pk ik jk ct B) (g : G m) (h : IR n l len cs bk y t pl rf ru pk ik jk ct m) (hx : x ≤ t) (h60 : x ≤ 60) : (∀ bk', bkP y x n 7 [] 0 = .inl bk' → BK n bk' → ∃ m1, F_X12_book 49 (ni x) m = some (ni bk'.length, m1) ∧ rI m1 49 0 = 0 ∧ IR n l len cs bk' y 0 (-1) rf ru pk ik jk ct m1 ∧ Gz m m1) ∧ (∀ q s, bkP y x n 7 [] 0 = .inr (q, s) → ∃ m1, F_X12_book 49 (ni x) m = some (ni q - 10, m1) ∧ rI m1 49 0 = 0 ∧ IR n l len cs bk y 0 (ni s) rf ru pk ik jk ct m1 ∧ Gz m m1) := by
  have g0 : G (wI m 49 0 0) := G_wI g
  have h0 := IR_0 0 h
  have e0 := w0_0 m
  have ht := h0.2.2.2.1
  have b0 := bad_f (c := 1) (r := 1) g0 e0
  have w1 := inr (ni x) 0 (rI (wI m 49 0 0) 49 1) (wI m 49 0 0)
  rw [decide_eq_true (by rw [ht.1]; exact txt_in (most := 60) hx ht.2.1), b2i_t] at w1
  have l60 : (ni x ≤ (60 : Int32)) = True := eq_true (by rw [show (60 : Int32) = ni 60 from rfl, ni_le (by omega) (by omega)]; exact h60)
  obtain ⟨m1, x1, x2, x3, x4, x5, x6, x7, x8, x9, x10⟩ := r_starts (x := y) (n := x) g0 (by omega) (fun i hi => ht.2.2 i (by omega))
  have g1 := x4.1
  have e53 : rI m1 53 0 = ni n := by rw [(x2.1 53 (by omega)).1]; exact h0.1.1
  have bb := blk_le (x := y) (n := x) (a := 0) (by omega)
  have hb6 := BK_len p.2.2.2.1
  refine ⟨fun bk' hb hbk => ?_, fun q s hb => ?_⟩
  · have z := r_bkL (K := fun v0 v2 m => gd (okO m v0 12) (if rI m v0 5 = 0 then gd (okO m v0 12) (lt9 (wI m v0 3 (-1 : Int32)) fun m36 => gd (okO m36 v0 12) (lt9 (wI m36 v0 27 v2) fun m37 => gd (okO m37 v0 12) (oc (rR m37 v0 18) none fun q38 => gd (okO m37 v0 12) (oc (rR m37 v0 17) none fun q39 => bd (F_X12_lays q38 q39 v2 m37) fun r40 m41 => some (v2, m41))))) else gd (okO m v0 12) (bd (F_X12_ends v0 m) fun r42 m43 => some (r42, m43)))) (x := y) (n := x) (N := n) 7 (blk y x 0) NF [] m1 (by simp) (by unfold NF; omega) (BK_nil p.1) x4 x5 bb.2 (blk_blk (by omega)) x6 e53 (fun i hi => by simp at hi)
    obtain ⟨m2, y1, y2, y3, y4⟩ := z.1 bk' ((bkP_b (by omega) 6 []).trans hb)
    have g2 := G_fr y2.1 g1
    have hl6 := BK_len hbk
    have g3 : G (wI (wI m2 49 3 (-1)) 49 27 (ni bk'.length)) := G_wI (G_wI g2)
    obtain ⟨m4, u1, u2, u3⟩ := r_lays (a := 383) (b := 376) (N := 6) (many := bk'.length) (by omega) hl6 (.inr (by omega)) (Ly_book g3)
    have w49 : ∀ j, j ≠ 3 → j ≠ 27 → rI m4 49 j = rI m2 49 j := fun j h1 h2 => by
      rw [(u2.1 49 (by omega)).1, rIw, uf_ne h2, rIw, uf_ne h1]
    have w49' : ∀ j, j = 13 ∨ j = 28 ∨ j = 29 ∨ j = 30 ∨ j = 0 ∨ j = 1 → rI m4 49 j = rI m1 49 j := fun j hj => by
      rw [w49 j (by omega) (by omega), y2.2 j (by omega)]
    have w49'' : ∀ j, j = 13 ∨ j = 28 ∨ j = 29 ∨ j = 30 ∨ j = 0 → rI m4 49 j = rI (wI m 49 0 0) 49 j := fun j hj => by
      rw [w49' j (by omega), x3 j (by omega) (by omega) (by omega) (by omega) (by omega) (by omega) (by omega)]
    have w : ∀ b, b ≠ 49 → ¬ (377 ≤ b ∧ b ≤ 382) → ¬ (384 ≤ b ∧ b < 390) → rI m4 b = rI (wI m 49 0 0) b := fun b h1 h2 h3 => by
      rw [(u2.1 b (by omega)).1, rIw_ne h1, rIw_ne h1, (y2.1.1 b (by omega)).1, (x2.1 b h1).1]
    refine ⟨m4, ?_, by rw [w49'' 0 (by omega)]; exact e0, ?_, ?_⟩
    · unfold F_X12_book
      have e5 : (rI m2 49 5 = 0) = True := eq_true y3
      have o1 : okO (wI m2 49 3 (-1)) 49 12 = true := gO49 (G_wI g2)
      have y1' : L_X12_book_48 _ NF 49 0 0 m1 = _ := y1
      simp (disch := first | assumption | omega | ((repeat (first | assumption | apply G_wI | apply G_wL | apply CSh_wI | apply CSh_wL)); done) | decide) only [↓dO0, ↓dO1, ↓dA2, ↓dK2, ↓dT2, ↓dO3, ↓dO4, ↓dA5, ↓dK5, ↓dT5, ↓dA6, ↓dK6, ↓dT6, ↓dA7, ↓dK7, ↓dT7, ↓dO8, ↓dA9, ↓dK9, ↓dT9, ↓dA10, ↓dK10, ↓dT10, ↓dA11, ↓dK11, ↓dT11, ↓dO12, ↓dA13, ↓dK13, ↓dT13, ↓dO14, ↓dA15, ↓dK15, ↓dT15, ↓dO16, ↓dO29, ↓dO42, ↓dA43, ↓dK43, ↓dT43, ↓dA44, ↓dK44, ↓dT44, ↓dO45, ↓dA46, ↓dK46, ↓dT46, ↓dO47, ↓dA48, ↓dK48, ↓dT48, ↓dO49, ↓dA50, ↓dK50, ↓dT50, ↓dA51, ↓dK51, ↓dT51, ↓dA52, ↓dK52, ↓dT52, ↓dA53, ↓dK53, ↓dT53, ↓dA54, ↓dK54, ↓dT54, ↓dA215, ↓dK215, ↓dT215, ↓dA376, ↓dK376, ↓dT376, ↓dA383, ↓dK383, ↓dT383, ↓dA390, ↓dK390, ↓dT390, ↓dA391, ↓dK391, ↓dT391, ↓dA392, ↓dK392, ↓dT392, ↓dA473, ↓dK473, ↓dT473, ↓dA474, ↓dK474, ↓dT474, ↓dA475, ↓dK475, ↓dT475, ↓dA492, ↓dK492, ↓dT492, ↓dA496, ↓dK496, ↓dT496, ↓dA497, ↓dK497, ↓dT497, ↓dR0_0, ↓dR0_1, ↓dR0_2, ↓dR0_3, ↓dR0_4, ↓dR0_5, ↓dR0_6, ↓dR0_7, ↓dR0_8, ↓dR0_9, ↓dR0_10, ↓dR0_11, ↓dR0_12, ↓dR1_0, ↓dR4_2, ↓dR8_0, ↓dR8_1, ↓dR8_2, ↓dR12_5, ↓dR14_0, ↓dR14_1, ↓dR14_2, ↓dR42_0, ↓dR45_0, ↓dR49_9, ↓dR49_10, ↓dR49_11, ↓dR49_12, ↓dR49_15, ↓dR49_16, ↓dR49_17, ↓dR49_18, ↓dR49_19, ↓dR49_20, ↓dR49_21, ↓dR49_23, ↓dR49_24, ↓dR49_25, ↓dR49_26, ↓dR49_34, ↓dF54, ↓dB54, ↓dC54, ↓dF215, ↓dB215, ↓dC215, ↓dF376, ↓dB376, ↓dC376, ↓dF383, ↓dB383, ↓dC383, ↓dF392, ↓dB392, ↓dC392, ↓dF475, ↓dB475, ↓dC475, ↓dF492, ↓dB492, ↓dC492, ↓lt9_e, ↓jn_e, ↓bd_s, ↓bdE w1, ↓i10, ↓i00, l60, ↓reduceIte, ↓bdE b0, ↓bdE x1, ↓y1', e5, ↓bdE u1]
    · obtain ⟨⟨a1, a2⟩, b1, -, -, -, e2, e3, s1, s2, s3, s4⟩ := h0
      have hl := p.2.2.1.2.2.2
      refine ⟨⟨by rw [w 53 (by omega) (by omega) (by omega)]; exact a1, by rw [w 53 (by omega) (by omega) (by omega)]; exact a2⟩, ?_, ⟨fun i hi => ?_, ?_⟩, RTp_0 (by rw [w49' 1 (by omega)]; exact x10), ?_, by rw [w49'' 29 (by omega)]; exact e2, fun i hi => by rw [w 51 (by omega) (by omega) (by omega)]; exact e3 i hi, by rw [w49'' 28 (by omega)]; exact s1, by rw [w49'' 30 (by omega)]; exact s2, fun j hj => by have := p.2.2.2.2.2.1; rw [w (493 + j) (by omega) (by omega) (by omega)]; exact s3 j hj, fun u hu => ?_⟩
      · unfold RLc
        rw [w49'' 13 (by omega)]
        rcases b1 with b1 | ⟨b1, b2⟩
        · exact .inl b1
        · refine .inr ⟨b1, fun i hi => ?_⟩
          rw [w (54 + 1 + i) (by omega) (by omega) (by omega)]
          exact b2 i hi
      · have q1 := u3 i hi 0 (by omega)
        have q2 := u3 i hi 1 (by omega)
        have q3 := y4 i hi
        rw [q1, q2, rIw_ne (by omega), rIw_ne (by omega)]
        exact q3
      · rw [(u2.1 49 (by omega)).1, rIw, uf_at]
      · rw [(u2.1 49 (by omega)).1, rIw, uf_ne (by omega), rIw, uf_at]
      · have z := rc9_r p.2.2.2.2.1 p.2.2.2.2.2.1 hu
        rw [w (rc9 u) (by omega) (by omega) (by omega)]
        exact s4 u hu
    · exact Fm_trans (Gz_0 m 0 0) (Fm_trans (Fm_mono (fun b z => by omega) x2) (Fm_trans (Fm_mono (fun b z => by omega) y2.1) (Fm_trans (Fm_wI (Fm_wI (Fm_refl _ _) (by omega)) (by omega)) (Fm_mono (fun b z => by omega) u2))))
  · have z := r_bkL (K := fun v0 v2 m => gd (okO m v0 12) (if rI m v0 5 = 0 then gd (okO m v0 12) (lt9 (wI m v0 3 (-1 : Int32)) fun m36 => gd (okO m36 v0 12) (lt9 (wI m36 v0 27 v2) fun m37 => gd (okO m37 v0 12) (oc (rR m37 v0 18) none fun q38 => gd (okO m37 v0 12) (oc (rR m37 v0 17) none fun q39 => bd (F_X12_lays q38 q39 v2 m37) fun r40 m41 => some (v2, m41))))) else gd (okO m v0 12) (bd (F_X12_ends v0 m) fun r42 m43 => some (r42, m43)))) (x := y) (n := x) (N := n) 7 (blk y x 0) NF [] m1 (by simp) (by unfold NF; omega) (BK_nil p.1) x4 x5 bb.2 (blk_blk (by omega)) x6 e53 (fun i hi => by simp at hi)
    obtain ⟨r, m2, y1, y2, y3, y4, y5, y6⟩ := z.2 q s ((bkP_b (by omega) 6 []).trans hb)
    have g2 := G_fr y2.1 g1
    have f3 : Fm (fun b => b = 49 ∨ (384 ≤ b ∧ b < 390)) (wI m 49 0 0) (wI m2 49 3 (ni s)) := Fm_wI (Fm_trans (Fm_mono (fun b z => .inl z) x2) y2.1) (.inl rfl)
    have w49 : ∀ j, j = 13 ∨ j = 27 ∨ j = 28 ∨ j = 29 ∨ j = 30 ∨ j = 0 → rI (wI m2 49 3 (ni s)) 49 j = rI (wI m 49 0 0) 49 j := fun j hj => by
      rw [rIw, uf_ne (by omega), y2.2 j (by omega), x3 j (by omega) (by omega) (by omega) (by omega) (by omega) (by omega) (by omega)]
    refine ⟨wI m2 49 3 (ni s), ?_, by rw [w49 0 (by omega)]; exact e0, IR_T p h0 f3 (fun b z => by unfold AT9; omega) (fun j hj => w49 j (by omega)) (RTp_0 ?_) (by rw [rIw, uf_at]), ?_⟩
    · unfold F_X12_book
      have e5 : (rI m2 49 5 = 0) = False := by rw [y3]; exact k_n0 y5 y6
      have y1' : L_X12_book_48 _ NF 49 0 0 m1 = _ := y1
      simp (disch := first | assumption | omega | ((repeat (first | assumption | apply G_wI | apply G_wL | apply CSh_wI | apply CSh_wL)); done) | decide) only [↓dO0, ↓dO1, ↓dA2, ↓dK2, ↓dT2, ↓dO3, ↓dO4, ↓dA5, ↓dK5, ↓dT5, ↓dA6, ↓dK6, ↓dT6, ↓dA7, ↓dK7, ↓dT7, ↓dO8, ↓dA9, ↓dK9, ↓dT9, ↓dA10, ↓dK10, ↓dT10, ↓dA11, ↓dK11, ↓dT11, ↓dO12, ↓dA13, ↓dK13, ↓dT13, ↓dO14, ↓dA15, ↓dK15, ↓dT15, ↓dO16, ↓dO29, ↓dO42, ↓dA43, ↓dK43, ↓dT43, ↓dA44, ↓dK44, ↓dT44, ↓dO45, ↓dA46, ↓dK46, ↓dT46, ↓dO47, ↓dA48, ↓dK48, ↓dT48, ↓dO49, ↓dA50, ↓dK50, ↓dT50, ↓dA51, ↓dK51, ↓dT51, ↓dA52, ↓dK52, ↓dT52, ↓dA53, ↓dK53, ↓dT53, ↓dA54, ↓dK54, ↓dT54, ↓dA215, ↓dK215, ↓dT215, ↓dA376, ↓dK376, ↓dT376, ↓dA383, ↓dK383, ↓dT383, ↓dA390, ↓dK390, ↓dT390, ↓dA391, ↓dK391, ↓dT391, ↓dA392, ↓dK392, ↓dT392, ↓dA473, ↓dK473, ↓dT473, ↓dA474, ↓dK474, ↓dT474, ↓dA475, ↓dK475, ↓dT475, ↓dA492, ↓dK492, ↓dT492, ↓dA496, ↓dK496, ↓dT496, ↓dA497, ↓dK497, ↓dT497, ↓dR0_0, ↓dR0_1, ↓dR0_2, ↓dR0_3, ↓dR0_4, ↓dR0_5, ↓dR0_6, ↓dR0_7, ↓dR0_8, ↓dR0_9, ↓dR0_10, ↓dR0_11, ↓dR0_12, ↓dR1_0, ↓dR4_2, ↓dR8_0, ↓dR8_1, ↓dR8_2, ↓dR12_5, ↓dR14_0, ↓dR14_1, ↓dR14_2, ↓dR42_0, ↓dR45_0, ↓dR49_9, ↓dR49_10, ↓dR49_11, ↓dR49_12, ↓dR49_15, ↓dR49_16, ↓dR49_17, ↓dR49_18, ↓dR49_19, ↓dR49_20, ↓dR49_21, ↓dR49_23, ↓dR49_24, ↓dR49_25, ↓dR49_26, ↓dR49_34, ↓dF54, ↓dB54, ↓dC54, ↓dF215, ↓dB215, ↓dC215, ↓dF376, ↓dB376, ↓dC376, ↓dF383, ↓dB383, ↓dC383, ↓dF392, ↓dB392, ↓dC392, ↓dF475, ↓dB475, ↓dC475, ↓dF492, ↓dB492, ↓dC492, ↓lt9_e, ↓jn_e, ↓bd_s, ↓bdE w1, ↓i10, ↓i00, l60, ↓reduceIte, ↓bdE b0, ↓bdE x1, ↓y1', e5, ↓bdE (r_endF g2 y3 y4)]
    · rw [rIw, uf_ne (by omega), y2.2 1 (by omega)]
      exact x10
    · exact Fm_trans (Gz_0 m 0 0) (Fm_mono (fun b z => by omega) f3)
theorem hx1_n : (∀ k, hx_L_book k ≠ some 0) := fun k => by
  unfold hx_L_book
  split
  · decide
  · exact fun z => by cases z
theorem C_book {k : Nat} {m : Mm} {a : Int32} (hk : k ≤ 600) (h : Inv k m) : Cl1 k m (wrI hx_L_book (F_X11_book 0 a)) (F_X12_book 49 a) := by
  obtain ⟨n, l, len, cs, bk, y, t, pl, rf, ru, pk, ik, jk, ct, hC, hR, p, h1, h2⟩ := h
  have p' := IP_B p (show 1 + 201 * k ≤ 1 + 201 * (k + 1) by omega) (by omega)
  have ctp := hC.2.2.2.2.2.1
  by_cases q : txt t 60 a
  · obtain ⟨x, rfl, hx, h60⟩ := q
    cases e : bkP y x n 7 [] 0 with
    | inl bk' =>
      obtain ⟨m1, x1, x2, x3, x4⟩ := (c_bookF p hC hx h60).1 bk' e
      exact cal3 hC hR p h1 h2 (v := ni bk'.length) ⟨p'.1, p'.2.1, p'.2.2.1, x4, p'.2.2.2.2⟩ ⟨m1, x1, x2, x3⟩ (fun m1 g1 hR1 => (r_bookF p g1 hR1 hx h60).1 bk' e x4)
    | inr qs =>
      obtain ⟨q, s⟩ := qs
      exact cal3 hC hR p h1 h2 (v := ni q - 10) p' ((c_bookF p hC hx h60).2 q s e) (fun m1 g1 hR1 => (r_bookF p g1 hR1 hx h60).2 q s e)
  · refine cal1 (R := .inr 1) hC hR p h1 h2 hk hx1_n ⟨by omega, 6, by omega, ?_⟩ (fun m1 g1 hR1 => ⟨1, rfl, ?_⟩)
    · have k1 : F_X11_needText 0 a 60 m = _ := needT_no (most := 60) hC.1 ctp.1 ctp.2.1 (by omega) q (by unfold K9; omega)
      unfold F_X11_book
      rw [gO0 hC.1, gd_t, bxR k1]
    · have g0 : G (wI m1 49 0 0) := G_wI g1
      have h0 := IR_0 0 hR1
      have ht := h0.2.2.2.1
      have b1 : F_X12_bad 49 1 1 1 (wI m1 49 0 0) = some (1, bdM m1 1 1) := bad_t (k := 1) g1 (by omega) (by decide)
      have w1 := inr a 0 (rI (wI m1 49 0 0) 49 1) (wI m1 49 0 0)
      rw [ht.1] at w1
      unfold F_X12_book
      rcases txt_no ht.2.1 (by omega) q with z | ⟨z, z2⟩
      · rw [decide_eq_false z, b2i_f] at w1
        simp only [gO49 g1, gO49 g0, gd_t, lt9_e, jn_e, ht.1, bdE w1, ↓i10, ↓i00, if_true, bdE b1]
      · rw [decide_eq_true z, b2i_t] at w1
        have l60 : (a ≤ (60 : Int32)) = False := eq_false z2
        simp only [gO49 g1, gO49 g0, gd_t, lt9_e, jn_e, ht.1, bdE w1, ↓i10, ↓i00, if_true, l60, if_false, bdE b1]
