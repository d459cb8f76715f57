/-! L2: told, would, fits, look, behind. -/
def wyC (σ : St) (k : Nat) : Nat := if k < 30 then cb (gI σ 10 k) 32 else 0
theorem wyC_0 {n B k : Nat} {σ : St} (wf : WF n B σ) (h : mc σ ≤ k) : wyC σ k = 0 := by
  unfold wyC
  by_cases e : k < 30
  · rw [if_pos e, wf.2.1.2.2.2.2.2.1 k e h]
    decide
  · rw [if_neg e]
theorem cow_s {n B : Nat} {σ : St} (wf : WF n B σ) : ∀ (d i : Nat), i + d = 30 → ex9 (cowS σ) (fun a => a) d i (ni (smN (wyC σ) i)) = ni (smN (wyC σ) 30) := by
  intro d
  induction d with
  | zero =>
    intro i hi
    rw [show i = 30 by omega]
    rfl
  | succ d ih =>
    intro i hi
    have h30 := WF_30 wf
    by_cases e : gI σ 0 7 ≤ ni i
    · rw [ex9_l (r := ni (smN (wyC σ) i)) (by unfold cowS; rw [if_pos e])]
      rw [WF_mc wf, ni_le (by omega) (by omega)] at e
      rw [smN_tail (show i ≤ 30 by omega) (fun k hk => wyC_0 wf (by omega))]
    · have ea : ni (smN (wyC σ) i) + bcI (gI σ 10 i) = ni (smN (wyC σ) (i + 1)) := by
        rw [bc_cb, ni_add]
        show _ = ni (smN (wyC σ) i + wyC σ i)
        unfold wyC
        rw [if_pos (show i < 30 by omega)]
      rw [ex9_r (b := ni (smN (wyC σ) i) + bcI (gI σ 10 i)) (by unfold cowS; rw [if_neg e]), ea]
      exact ih (i + 1) (by omega)
theorem countOn_s {n B : Nat} {σ : St} (wf : WF n B σ) : countOn σ = ni (smN (wyC σ) 30) := cow_s wf 30 0 (by omega)
def wyR (σ : St) (i : Nat) : Nat := smN (fun k => (tb (gI σ 10 k) i).toNat) 30
theorem wy_swap {n B : Nat} {σ : St} (wf : WF n B σ) : smN (wyR σ) n = smN (wyC σ) 30 := by
  unfold wyR
  rw [smN_swap n 30]
  refine smN_cg 30 (fun k hk => ?_)
  unfold wyC
  rw [if_pos hk]
  have hb : bel n (gI σ 10 k) := fun j hj => by
    cases et : tb (gI σ 10 k) j with
    | false => rfl
    | true =>
      have z := wf.2.1.2.2.2.2.1 k hk j et
      rw [wf.1.2.2.1 j hj] at z
      cases z
  exact (cb_tail (show n ≤ 32 by have := WF_6 wf; omega) hb).symm
theorem r_ones24 {n B i : Nat} {σ : St} {m : Mm} (rr : RR (rI m 473) σ) (hi : i < 6) : F_X12_ones (rI m 473 (24 + i)) m = some (ni (wyR σ i), m) := by
  rw [r_ones]
  unfold cb wyR
  rw [smN_cg 30 (fun k hk => ?_)]
  rw [RRw rr hi k, decide_eq_true hk, Bool.true_and]
theorem r_toldL {K : Nat → Int32 → Int32 → Mm → Option (Int32 × Mm)} {n B : Nat} {w : Int32} {σ : St} {m : Mm} (g : G m) (h53 : rI m 53 0 = ni n) (rr : RR (rI m 473) σ) (wf : WF n B σ) : ∀ (d i fuel : Nat), i + d = n → d < fuel → L_X12_told_35 K fuel 49 w (ni (smN (wyR σ) i)) (ni i) m = K 49 w (ni (smN (wyR σ) n)) m := by
  have hn := WF_6 wf
  intro d
  induction d with
  | zero =>
    intro i fuel hd hf
    obtain ⟨fuel, rfl⟩ : ∃ z, fuel = z + 1 := ⟨fuel - 1, by omega⟩
    have e : (ni n ≤ ni i) = True := eq_true (by rw [ni_le (by omega) (by omega)]; omega)
    have ei : i = n := by omega
    rw [L_X12_told_35]
    simp only [gO49 g, gd_t, gR49_12 g, oc_s, gK53 g (show 0 < 3 by omega), show ix (0 : Int32) = 0 from by decide, h53, e, if_true]
    rw [ei]
  | succ d ih =>
    intro i fuel hd hf
    obtain ⟨fuel, rfl⟩ : ∃ z, fuel = z + 1 := ⟨fuel - 1, by omega⟩
    have e : (ni n ≤ ni i) = False := eq_false (fun z => by rw [ni_le (by omega) (by omega)] at z; omega)
    have s24 : (24 : Int32) + ni i = ni (24 + i) := lni_add 24 i
    have k1 := r_ones24 (n := n) (B := B) (i := i) rr (by omega)
    have ip : ni i + 1 = ni (i + 1) := ni_add i 1
    have ea : ni (smN (wyR σ) i) + ni (wyR σ i) = ni (smN (wyR σ) (i + 1)) := by
      rw [ni_add]
      rfl
    rw [← ih (i + 1) fuel (by omega) (by omega), L_X12_told_35]
    simp only [gO49 g, gd_t, gR49_12 g, gR49_23 g, oc_s, gK53 g (show 0 < 3 by omega), show ix (0 : Int32) = 0 from by decide, h53, e, if_false, s24, gA473 g (show 24 + i < 968 by omega), ix_ni (show 24 + i < 2147483648 by omega), bdE k1, lt9_e, ip, ea]
def toldP (n l b : Nat) (rf : Int32) (σ : St) (w : Int32) : Int32 :=
  if w = 0 then ni n else if w = 1 then gI σ 0 0 else if w = 2 then gI σ 0 1 else if w = 3 then gI σ 0 3 else if w = 4 then gI σ 0 4 else if w = 5 then gI σ 0 5 else if w = 6 then gI σ 0 6 else if w = 7 then gI σ 0 7 else if w = 8 then countOn σ else if w = 9 then ni b else if w = 10 then rf else ni l
theorem qc_told {n l len : Nat} {cs : Nat → Nat} {bk : List (Nat × Nat)} {y : Nat → Nat} {t : Nat} {pl rf : Int32} {ru : Nat → Int32} {pk ik : Nat} {jk : Nat → Nat} {ct : Nat → St} {B : Nat} {m : Mm} {w : Int32} (p : IP n l len cs bk pk ik jk ct B) (h : IC n l len cs bk y t pl rf ru pk ik jk ct m) (hN : mN m + 1 < K9) : CA (F_X11_told 0 w m) (if ¬ w < 0 ∧ ¬ 11 < w then .inl (toldP n l bk.length rf (ct 0) w) else .inr 1 : Int32 ⊕ Nat) m := by
  obtain ⟨q, ha, wf, g⟩ := IC_ctx p h
  have c16 := G_16 g
  have wt' := wth w 0 11 m
  by_cases hw : ¬ w < 0 ∧ ¬ 11 < w
  · rw [if_pos hw]
    rw [decide_eq_true hw, b2i_t] at wt'
    have k2 : F_X11_need 0 1 m = some (.inl (), m) := c_need1
    have f0 : rI m 16 0 = gI (ct 0) 0 0 := by rw [rI_o0 16 m (by omega), ha]
    have f1 : rI m 16 1 = gI (ct 0) 0 1 := by rw [rI_o0 16 m (by omega), ha]
    have f3 : rI m 16 3 = gI (ct 0) 0 3 := by rw [rI_o0 16 m (by omega), ha]
    have f4 : rI m 16 4 = gI (ct 0) 0 4 := by rw [rI_o0 16 m (by omega), ha]
    have f5 : rI m 16 5 = gI (ct 0) 0 5 := by rw [rI_o0 16 m (by omega), ha]
    have f6 : rI m 16 6 = gI (ct 0) 0 6 := by rw [rI_o0 16 m (by omega), ha]
    have f7 : rI m 16 7 = gI (ct 0) 0 7 := by rw [rI_o0 16 m (by omega), ha]
    have k8 := c_countOn c16
    rw [ha] at k8
    have a1 := h.2.2.1.1
    have a2 := h.2.2.1.2
    have a3 := h.2.2.2.2.1.1
    have a4 := h.2.2.2.2.2.2.2.1
    refine ⟨m, ?_, Qf_refl m⟩
    unfold F_X11_told toldP
    simp only [gO0 g, gd_t, bdE wt', bxL k2, gR0_1 g, gR0_6 g, gR0_4 g, oc_s, gO3 g, gO16 g, gO12 g, f0, f1, f3, f4, f5, f6, f7, bdE k8, a1, a2, a3, a4]
    by_cases z0 : w = 0
    · rw [if_pos z0, if_pos z0]
    · rw [if_neg z0, if_neg z0]
      by_cases z1 : w = 1
      · rw [if_pos z1, if_pos z1]
      · rw [if_neg z1, if_neg z1]
        by_cases z2 : w = 2
        · rw [if_pos z2, if_pos z2]
        · rw [if_neg z2, if_neg z2]
          by_cases z3 : w = 3
          · rw [if_pos z3, if_pos z3]
          · rw [if_neg z3, if_neg z3]
            by_cases z4 : w = 4
            · rw [if_pos z4, if_pos z4]
            · rw [if_neg z4, if_neg z4]
              by_cases z5 : w = 5
              · rw [if_pos z5, if_pos z5]
              · rw [if_neg z5, if_neg z5]
                by_cases z6 : w = 6
                · rw [if_pos z6, if_pos z6]
                · rw [if_neg z6, if_neg z6]
                  by_cases z7 : w = 7
                  · rw [if_pos z7, if_pos z7]
                  · rw [if_neg z7, if_neg z7]
                    by_cases z8 : w = 8
                    · rw [if_pos z8, if_pos z8]
                    · rw [if_neg z8, if_neg z8]
                      by_cases z9 : w = 9
                      · rw [if_pos z9, if_pos z9]
                      · rw [if_neg z9, if_neg z9]
                        by_cases z10 : w = 10
                        · rw [if_pos z10, if_pos z10]
                        · rw [if_neg z10, if_neg z10]
  · rw [if_neg hw]
    rw [decide_eq_false hw, b2i_f] at wt'
    have k2 := need_f g hN
    rw [b2i_f] at k2
    refine ⟨by omega, 6, by omega, ?_⟩
    unfold F_X11_told
    simp only [gO0 g, gd_t, bdE wt', bxR k2]
theorem qr_told {n l len : Nat} {cs : Nat → Nat} {bk : List (Nat × Nat)} {y : Nat → Nat} {t : Nat} {pl rf : Int32} {ru : Nat → Int32} {pk ik : Nat} {jk : Nat → Nat} {ct : Nat → St} {B : Nat} {m : Mm} {w : Int32} (p : IP n l len cs bk pk ik jk ct B) (g : G m) (h : IR n l len cs bk y t pl rf ru pk ik jk ct m) : RA (F_X12_told 49 w m) (if ¬ w < 0 ∧ ¬ 11 < w then .inl (toldP n l bk.length rf (ct 0) w) else .inr 1 : Int32 ⊕ Nat) hx_L_told 0 m := by
  have g0 : G (wI m 49 0 0) := G_wI g
  have h' := IR_0 0 h
  have rc := IR_RC p g0 h'
  have rr := IR_now h'
  have wf : WF n B (ct 0) := p.2.2.2.2.2.2.2 0 (Val_0 _ _ _)
  have e0 := w0_0 m
  have b0 := bad_f (c := 1) (r := 1) g0 e0
  have b1 : F_X12_bad 49 1 1 1 (wI m 49 0 0) = some (1, bdM m 1 1) := bad_t (k := 1) g (by omega) (by decide)
  have wt' := inr w 0 11 (wI m 49 0 0)
  by_cases hw : ¬ w < 0 ∧ ¬ 11 < w
  · rw [if_pos hw]
    rw [decide_eq_true hw, b2i_t] at wt'
    have a1 := rc.2.1
    have a2 := rc.2.2.1
    have a3 := h'.2.2.1.2
    have a4 := h'.2.2.2.2.2.1
    have r181 : rI (wI m 49 0 0) 473 (ix (181 : Int32)) = gI (ct 0) 0 0 := RR181 rr
    have r182 : rI (wI m 49 0 0) 473 (ix (182 : Int32)) = gI (ct 0) 0 1 := RR182 rr
    have r184 : rI (wI m 49 0 0) 473 (ix (184 : Int32)) = gI (ct 0) 0 3 := RR184 rr
    have r185 : rI (wI m 49 0 0) 473 (ix (185 : Int32)) = gI (ct 0) 0 4 := RR185 rr
    have r186 : rI (wI m 49 0 0) 473 (ix (186 : Int32)) = gI (ct 0) 0 5 := RR186 rr
    have r180 : rI (wI m 49 0 0) 473 (ix (180 : Int32)) = gI (ct 0) 0 6 := RR180 rr
    have r187 : rI (wI m 49 0 0) 473 (ix (187 : Int32)) = gI (ct 0) 0 7 := RR187 rr
    refine ⟨wI m 49 0 0, ?_, e0, Qr_0 m 0⟩
    unfold F_X12_told
    simp only [gO49 g, gO49 g0, gd_t, lt9_e, jn_e, bdE wt', ↓i10, ↓i00, if_true, bdE b0]
    have z := fun K => r_toldL (K := K) (w := w) g0 a1 rr wf n 0 NF (by omega) (by have := p.1; unfold NF; omega)
    rw [show ni (smN (wyR (ct 0)) 0) = 0 from rfl, ni_0, wy_swap wf, ← countOn_s wf] at z
    rw [z]
    unfold toldP
    simp only [gO49 g0, gd_t, gR49_12 g0, gR49_23 g0, oc_s, gK53 g0 (show 0 < 3 by omega), gK53 g0 (show 2 < 3 by omega), show ix (0 : Int32) = 0 from by decide, show ix (2 : Int32) = 2 from by decide, gK473 g0 (show 181 < 968 by omega), gK473 g0 (show 182 < 968 by omega), gK473 g0 (show 184 < 968 by omega), gK473 g0 (show 185 < 968 by omega), gK473 g0 (show 186 < 968 by omega), gK473 g0 (show 180 < 968 by omega), gK473 g0 (show 187 < 968 by omega), r180, r181, r182, r184, r185, r186, r187, a1, a2, a3, a4]
    by_cases z0 : w = 0
    · rw [if_pos z0, if_pos z0]
    · rw [if_neg z0, if_neg z0]
      by_cases z1 : w = 1
      · rw [if_pos z1, if_pos z1]
      · rw [if_neg z1, if_neg z1]
        by_cases z2 : w = 2
        · rw [if_pos z2, if_pos z2]
        · rw [if_neg z2, if_neg z2]
          by_cases z3 : w = 3
          · rw [if_pos z3, if_pos z3]
          · rw [if_neg z3, if_neg z3]
            by_cases z4 : w = 4
            · rw [if_pos z4, if_pos z4]
            · rw [if_neg z4, if_neg z4]
              by_cases z5 : w = 5
              · rw [if_pos z5, if_pos z5]
              · rw [if_neg z5, if_neg z5]
                by_cases z6 : w = 6
                · rw [if_pos z6, if_pos z6]
                · rw [if_neg z6, if_neg z6]
                  by_cases z7 : w = 7
                  · rw [if_pos z7, if_pos z7]
                  · rw [if_neg z7, if_neg z7]
                    by_cases z8 : w = 8
                    · rw [if_pos z8, if_pos z8]
                    · rw [if_neg z8, if_neg z8]
                      by_cases z9 : w = 9
                      · rw [if_pos z9, if_pos z9]
                      · rw [if_neg z9, if_neg z9]
                        by_cases z10 : w = 10
                        · rw [if_pos z10, if_pos z10]
                        · rw [if_neg z10, if_neg z10]
  · rw [if_neg hw]
    rw [decide_eq_false hw, b2i_f] at wt'
    refine ⟨1, rfl, ?_⟩
    unfold F_X12_told
    simp only [gO49 g, gO49 g0, gd_t, lt9_e, jn_e, bdE wt', ↓i10, ↓i00, if_true, bdE b1]
/-! would -/
theorem qc_would {n l len : Nat} {cs : Nat → Nat} {bk : List (Nat × Nat)} {y : Nat → Nat} {t : Nat} {pl rf : Int32} {ru : Nat → Int32} {pk ik : Nat} {jk : Nat → Nat} {ct : Nat → St} {B : Nat} {m : Mm} {a b c d : Int32} (p : IP n l len cs bk pk ik jk ct B) (h : IC n l len cs bk y t pl rf ru pk ik jk ct m) (hN : mN m + 1 < K9) : CA (F_X11_would 0 a b c d m) (if ((¬ a < 0 ∧ ¬ 5 < a) ∧ (¬ b < 0 ∧ ¬ 9999 < b) ∧ (¬ c < 0 ∧ ¬ 9999 < c) ∧ (¬ d < 0 ∧ ¬ 6 < d)) then .inl (wgt cs len (a, b, c, d)) else .inr 1 : Int32 ⊕ Nat) m := by
  obtain ⟨q, ha, wf, g⟩ := IC_ctx p h
  have w1 := wth a 0 5 m
  have w2 := wth b 0 9999 m
  have w3 := wth c 0 9999 m
  have w4 := wth d 0 6 m
  have k1 : F_X11_need 0 1 m = some (.inl (), m) := c_need1
  have k0 := need_f g hN
  rw [b2i_f] at k0
  by_cases h1 : ¬ a < 0 ∧ ¬ 5 < a
  · rw [decide_eq_true h1, b2i_t] at w1
    by_cases h2 : ¬ b < 0 ∧ ¬ 9999 < b
    · rw [decide_eq_true h2, b2i_t] at w2
      by_cases h3 : ¬ c < 0 ∧ ¬ 9999 < c
      · rw [decide_eq_true h3, b2i_t] at w3
        by_cases h4 : ¬ d < 0 ∧ ¬ 6 < d
        · rw [decide_eq_true h4, b2i_t] at w4
          rw [if_pos ⟨h1, h2, h3, h4⟩]
          obtain ⟨qc, hqc, lc⟩ := q.2.2.2.1
          obtain ⟨m1, x1, x2⟩ := c_weigh (e := (a, b, c, d)) q.2.2.2.2 lc
          have x1' : F_X3_weigh 4 a b c d m = some (wgt cs len (a, b, c, d), m1) := x1
          refine ⟨m1, ?_, Qf_of x2 (fun b z => by rw [z]; unfold SQ; omega)⟩
          unfold F_X11_would
          simp only [gO0 g, gd_t, jn_e, bdE w1, bdE w2, bdE w3, bdE w4, ↓i10, bxL k1, gR0_2 g, oc_s, gO4 g, bdE x1']
        · rw [decide_eq_false h4, b2i_f] at w4
          rw [if_neg (fun z => h4 z.2.2.2)]
          refine ⟨by omega, 6, by omega, ?_⟩
          unfold F_X11_would
          simp only [gO0 g, gd_t, jn_e, bdE w1, bdE w2, bdE w3, bdE w4, ↓i10, ↓i00, if_true, bxL k1, bxR k0]
      · rw [decide_eq_false h3, b2i_f] at w3
        rw [if_neg (fun z => h3 z.2.2.1)]
        refine ⟨by omega, 6, by omega, ?_⟩
        unfold F_X11_would
        simp only [gO0 g, gd_t, jn_e, bdE w1, bdE w2, bdE w3, ↓i10, ↓i00, if_true, bxL k1, bxR k0]
    · rw [decide_eq_false h2, b2i_f] at w2
      rw [if_neg (fun z => h2 z.2.1)]
      refine ⟨by omega, 6, by omega, ?_⟩
      unfold F_X11_would
      simp only [gO0 g, gd_t, jn_e, bdE w1, bdE w2, ↓i10, ↓i00, if_true, bxR k0]
  · rw [decide_eq_false h1, b2i_f] at w1
    rw [if_neg (fun z => h1 z.1)]
    refine ⟨by omega, 6, by omega, ?_⟩
    unfold F_X11_would
    simp only [gO0 g, gd_t, jn_e, bdE w1, ↓i00, if_true, bxR k0]
theorem qr_would {n l len : Nat} {cs : Nat → Nat} {bk : List (Nat × Nat)} {y : Nat → Nat} {t : Nat} {pl rf : Int32} {ru : Nat → Int32} {pk ik : Nat} {jk : Nat → Nat} {ct : Nat → St} {B : Nat} {m : Mm} {a b c d : Int32} (p : IP n l len cs bk pk ik jk ct B) (g : G m) (h : IR n l len cs bk y t pl rf ru pk ik jk ct m) : RA (F_X12_would 49 a b c d m) (if ((¬ a < 0 ∧ ¬ 5 < a) ∧ (¬ b < 0 ∧ ¬ 9999 < b) ∧ (¬ c < 0 ∧ ¬ 9999 < c) ∧ (¬ d < 0 ∧ ¬ 6 < d)) then .inl (wgt cs len (a, b, c, d)) else .inr 1 : Int32 ⊕ Nat) hx_L_would 0 m := by
  have g0 : G (wI m 49 0 0) := G_wI g
  have h' := IR_0 0 h
  have rc := IR_RC p g0 h'
  have e0 := w0_0 m
  have b0 := bad_f (c := 1) (r := 1) g0 e0
  have b1 : F_X12_bad 49 1 1 1 (wI m 49 0 0) = some (1, bdM m 1 1) := bad_t (k := 1) g (by omega) (by decide)
  have w1 := inr a 0 5 (wI m 49 0 0)
  have w2 := inr b 0 9999 (wI m 49 0 0)
  have w3 := inr c 0 9999 (wI m 49 0 0)
  have w4 := inr d 0 6 (wI m 49 0 0)
  by_cases h1 : ¬ a < 0 ∧ ¬ 5 < a
  · rw [decide_eq_true h1, b2i_t] at w1
    by_cases h2 : ¬ b < 0 ∧ ¬ 9999 < b
    · rw [decide_eq_true h2, b2i_t] at w2
      by_cases h3 : ¬ c < 0 ∧ ¬ 9999 < c
      · rw [decide_eq_true h3, b2i_t] at w3
        by_cases h4 : ¬ d < 0 ∧ ¬ 6 < d
        · rw [decide_eq_true h4, b2i_t] at w4
          rw [if_pos ⟨h1, h2, h3, h4⟩]
          obtain ⟨m1, x1, x2⟩ := r_weightBy (e := (a, b, c, d)) rc.2.2.2.2.2 (G_RLs g0) rc.2.2.2.2.1
          have x1' : F_X12_weightBy 49 a b c d (wI m 49 0 0) = some (wgt cs len (a, b, c, d), m1) := x1
          have f : Fm AR (wI m 49 0 0) m1 := x2
          refine ⟨m1, ?_, by rw [(f.1 49 (by unfold AR; omega)).1]; exact e0, Qr_trans (Qr_0 m 0) (Qr_AR f)⟩
          unfold F_X12_would
          simp only [gO49 g, gO49 g0, gd_t, lt9_e, jn_e, bdE w1, bdE w2, bdE w3, bdE w4, ↓i10, ↓i00, if_true, bdE b0, bdE x1']
        · rw [decide_eq_false h4, b2i_f] at w4
          rw [if_neg (fun z => h4 z.2.2.2)]
          refine ⟨1, rfl, ?_⟩
          unfold F_X12_would
          simp only [gO49 g, gO49 g0, gd_t, lt9_e, jn_e, bdE w1, bdE w2, bdE w3, bdE w4, ↓i10, ↓i00, if_true, bdE b1]
      · rw [decide_eq_false h3, b2i_f] at w3
        rw [if_neg (fun z => h3 z.2.2.1)]
        refine ⟨1, rfl, ?_⟩
        unfold F_X12_would
        simp only [gO49 g, gO49 g0, gd_t, lt9_e, jn_e, bdE w1, bdE w2, bdE w3, ↓i10, ↓i00, if_true, bdE b1]
    · rw [decide_eq_false h2, b2i_f] at w2
      rw [if_neg (fun z => h2 z.2.1)]
      refine ⟨1, rfl, ?_⟩
      unfold F_X12_would
      simp only [gO49 g, gO49 g0, gd_t, lt9_e, jn_e, bdE w1, bdE w2, ↓i10, ↓i00, if_true, bdE b1]
  · rw [decide_eq_false h1, b2i_f] at w1
    rw [if_neg (fun z => h1 z.1)]
    refine ⟨1, rfl, ?_⟩
    unfold F_X12_would
    simp only [gO49 g, gO49 g0, gd_t, lt9_e, jn_e, bdE w1, ↓i10, ↓i00, if_true, bdE b1]
