/-! L2: agree, note, spelt, status, count. -/
theorem b2i_and (a b : Bool) : b2i a &&& b2i b = b2i (a && b) := by cases a <;> cases b <;> decide
theorem r_agreeBy {n len w B : Nat} {lim : Int32} {cs : Nat → Nat} {σ : St} {m : Mm} (hw : w = 473 ∨ w = 474) (wf : WF n B σ) (c : RC n lim len cs m) (h : RR (rI m w) σ) :
    ∃ m', F_X12_agreeBy 49 w m = some (b2i (wouldAgree σ (survN cs len n σ)), m') ∧ Fm (AW w) m m' := by
  obtain ⟨m1, x1, x2⟩ := r_surv hw wf c h
  have hb : bel n (survN cs len n σ) := bel_surv wf
  have hn := WF_6 wf
  have hb6 : bel 6 (survN cs len n σ) := bel_mono hn hb
  have g := c.1
  have c1 := RC_q c x2
  have g1 := c1.1
  have h1 : RR (rI m1 w) σ := by rw [AR_w hw x2]; exact h
  rw [agree_eq hb6]
  have hsub : ∀ a, a < 6 → tb (survN cs len n σ) a = true → Lg σ a := fun a ha ht => by
    refine WF_lg wf ha ?_
    unfold survN at ht
    split at ht
    · rw [tb_0] at ht
      cases ht
    · rw [tb_and] at ht
      unfold stands
      cases q : tb (standing σ) a with
      | true => rfl
      | false => rw [q, Bool.and_false] at ht; cases ht
  by_cases e : survN cs len n σ = 0
  · have e' := eq_true e
    refine ⟨m1, ?_, AR_AW x2⟩
    unfold F_X12_agreeBy
    simp only [gO49 g, gd_t, bdE x1, lt9_e, e', if_true, decide_true, Bool.true_or, b2i_t]
  · have e' := eq_false e
    generalize hx : survN cs len n σ = x at *
    have mc1 := RC_MC c1 hw
    obtain ⟨m2, y1, y2, y3⟩ := r_flushes mc1 h1 wf hb hsub
    have c2 := RC_w c1 hw (eq_AW y3)
    have g2 := c2.1
    have mc2 := RC_MC c2 hw
    have h53 := c2.2.1
    have rl := r_least (m := m2) hb6 e
    have l6 := lst_6 x
    have wl := r_wideS (a := lst x) mc2 y2 l6
    rw [flush_sum l6] at wl
    have kl : (188 : Int32) + (2 : Int32) * ni (lst x) = ni (188 + 2 * lst x) := by rw [lni_mul, lni_add]
    have L : ∀ (d i fuel : Nat) (q : Bool), i + d = n → d < fuel → L_X12_agreeBy_23 fuel 49 w x (b2i q) (ni i) m2 = some (b2i (itn (agF σ x) d i q), m2) := by
      intro d
      induction d with
      | zero =>
        intro i fuel q hd hf
        obtain ⟨fuel, rfl⟩ : ∃ z, fuel = z + 1 := ⟨fuel - 1, by omega⟩
        have e1 : (ni n ≤ ni i) = True := eq_true (by rw [ni_le (by omega) (by omega)]; omega)
        rw [L_X12_agreeBy_23]
        simp only [gO49 g2, gd_t, gR49_12 g2, oc_s, gK53 g2 (show 0 < 3 by omega), show ix (0 : Int32) = 0 from by decide, h53, e1, if_true, b2i_ok]
        rfl
      | succ d ih =>
        intro i fuel q hd hf
        obtain ⟨fuel, rfl⟩ : ∃ z, fuel = z + 1 := ⟨fuel - 1, by omega⟩
        have e1 : (ni n ≤ ni i) = False := eq_false (fun z => by rw [ni_le (by omega) (by omega)] at z; omega)
        have k6 := hasR (x := x) (i := i) (by omega) m2
        have ip : ni i + 1 = ni (i + 1) := ni_add i 1
        have ki : (188 : Int32) + (2 : Int32) * ni i = ni (188 + 2 * i) := by rw [lni_mul, lni_add]
        have wi := r_wideS (a := i) mc2 y2 (by omega)
        rw [flush_sum (by omega)] at wi
        rw [show itn (agF σ x) (d + 1) i q = itn (agF σ x) d (i + 1) (agF σ x i q) from rfl, ← ih (i + 1) fuel (agF σ x i q) (by omega) (by omega), L_X12_agreeBy_23]
        cases et : tb x i with
        | false =>
          rw [et, b2i_f] at k6
          have hF : b2i (agF σ x i q) = b2i q &&& 1 := by
            unfold agF
            rw [et, ← b2i_t, b2i_and]
            rfl
          rw [hF]
          simp only [gO49 g2, gd_t, gR49_12 g2, oc_s, gK53 g2 (show 0 < 3 by omega), show ix (0 : Int32) = 0 from by decide, h53, e1, if_false, bdE k6, jn_e, ↓i00, if_true, lt9_e, ip]
        | true =>
          rw [et, b2i_t] at k6
          by_cases es : sumBehind σ i x = sumBehind σ (lst x) x
          · have es' : (lg_cmp (sumBehind σ i x) (sumBehind σ (lst x) x) = 0) = True := eq_true ((lgc0 _ _).mpr es)
            have hF : b2i (agF σ x i q) = b2i q &&& 1 := by
              unfold agF
              rw [et, decide_eq_true es, ← b2i_t, b2i_and]
              rfl
            rw [hF]
            simp only [gO49 g2, gd_t, gR49_12 g2, oc_s, gK53 g2 (show 0 < 3 by omega), show ix (0 : Int32) = 0 from by decide, h53, e1, if_false, bdE k6, jn_e, ↓i10, lt9_e, ip, ki, bdE wi, bdE rl, kl, bdE wl, es', if_true]
          · have es' : (lg_cmp (sumBehind σ i x) (sumBehind σ (lst x) x) = 0) = False := eq_false (fun z => es ((lgc0 _ _).mp z))
            have hF : b2i (agF σ x i q) = b2i q &&& 0 := by
              unfold agF
              rw [et, decide_eq_false es, ← b2i_f, b2i_and]
              rfl
            rw [hF]
            simp only [gO49 g2, gd_t, gR49_12 g2, oc_s, gK53 g2 (show 0 < 3 by omega), show ix (0 : Int32) = 0 from by decide, h53, e1, if_false, bdE k6, jn_e, ↓i10, lt9_e, ip, ki, bdE wi, bdE rl, kl, bdE wl, es']
    have T : itn (agF σ x) 6 0 true = itn (agF σ x) n 0 true := itn_tail hn (fun k h1 h2 => by
      unfold agF
      rw [hb k h1]
      simp)
    refine ⟨m2, ?_, Fm_trans (AR_AW x2) (eq_AW y3)⟩
    have z := L n 0 NF true (by omega) (by unfold NF; omega)
    rw [b2i_t, ni_0] at z
    rw [T, decide_eq_false e, Bool.false_or]
    unfold F_X12_agreeBy
    simp only [gO49 g, gO49 g1, gd_t, bdE x1, lt9_e, e', if_false, bdE y1]
    exact z
theorem qc_agree {n l len : Nat} {cs : Nat → Nat} {bk : List (Nat × Nat)} {y : Nat → Nat} {t : Nat} {pl rf : Int32} {ru : Nat → Int32} {pk ik : Nat} {jk : Nat → Nat} {ct : Nat → St} {B : Nat} {m : Mm} (p : IP n l len cs bk pk ik jk ct B) (h : IC n l len cs bk y t pl rf ru pk ik jk ct m) : ∃ m1, F_X11_agree 0 m = some (b2i (wouldAgree (ct 0) (survN cs len n (ct 0))), m1) ∧ Qf m m1 := by
  obtain ⟨q, ha, wf, g⟩ := IC_ctx p h
  obtain ⟨m1, x1, -, x3⟩ := c_survNow (.inl rfl) q (bel_st (by rw [ha]; exact wf))
  rw [ha] at x1
  have g1 := G_fr x3 g
  have k2 := c_wouldAgree (x := survN cs len n (ct 0)) (G_16 g1)
  rw [abs_q (.inl rfl) x3, ha] at k2
  refine ⟨m1, ?_, Qf_AQ x3⟩
  unfold F_X11_agree
  simp only [gO0 g, gd_t, gR0_5 g, gR0_6 g, oc_s, gO14 g, bdE x1, gO16 g1, bdE k2, b2i_ok]
theorem Qr_AW {m m' : Mm} (f : Fm (AW 474) m m') : Qr m m' := ⟨Fm_mono (fun b z => by unfold AW at z; unfold AQR; omega) f, fun j _ => by rw [(f.1 49 (by unfold AW; omega)).1]⟩
theorem qr_agree {n l len : Nat} {cs : Nat → Nat} {bk : List (Nat × Nat)} {y : Nat → Nat} {t : Nat} {pl rf : Int32} {ru : Nat → Int32} {pk ik : Nat} {jk : Nat → Nat} {ct : Nat → St} {B : Nat} {m : Mm} (p : IP n l len cs bk pk ik jk ct B) (g : G m) (h : IR n l len cs bk y t pl rf ru pk ik jk ct m) : ∃ m1, F_X12_agree 49 m = some (b2i (wouldAgree (ct 0) (survN cs len n (ct 0))), m1) ∧ Qr m m1 := by
  have g0 : G (wI m 49 0 0) := G_wI g
  have rc := IR_RC p g0 (IR_0 0 h)
  have rr := IR_now (IR_0 0 h)
  have wf : WF n B (ct 0) := p.2.2.2.2.2.2.2 0 (Val_0 _ _ _)
  obtain ⟨m1, x1, x2, x3⟩ := r_cop (a := 473) (b := 474) (m := wI m 49 0 0) (by omega) ((g0.1 473 (by omega)).trans sx473) ((g0.1 474 (by omega)).trans sx474)
  have f1 : Fm (AW 474) (wI m 49 0 0) m1 := eq_AW x2
  have c1 := RC_w rc (.inr rfl) f1
  have g1 := c1.1
  obtain ⟨m2, y1, y2⟩ := r_agreeBy (w := 474) (.inr rfl) wf c1 (RR_cp rr x3)
  refine ⟨m2, ?_, Qr_trans (Qr_0 m 0) (Qr_AW (Fm_trans f1 y2))⟩
  unfold F_X12_agree
  simp only [gO49 g, gO49 g0, gO49 g1, gd_t, lt9_e, gR49_23 g0, gR49_24 g0, gR49_24 g1, oc_s, bdE x1, bdE y1, b2i_ok]
/-! the note -/
theorem WF_v {n B : Nat} {σ : St} (wf : WF n B σ) : ∃ v c, gI σ 0 0 = ni v ∧ v < 1000000 ∧ gI σ 0 7 = ni c ∧ c < 1000000 := by
  obtain ⟨b, hb0, hb, hb1, -⟩ := wf.2.1.2.2.2.2.2.2.2.2.2.1
  exact ⟨b, mc σ, hb1, by have := wf.2.2; omega, WF_mc wf, by have := WF_30 wf; omega⟩
theorem qc_note {n l len : Nat} {cs : Nat → Nat} {bk : List (Nat × Nat)} {y : Nat → Nat} {t : Nat} {pl rf : Int32} {ru : Nat → Int32} {pk ik : Nat} {jk : Nat → Nat} {ct : Nat → St} {B v c : Nat} {m : Mm} (p : IP n l len cs bk pk ik jk ct B) (h : IC n l len cs bk y t pl rf ru pk ik jk ct m) (hv : gI (ct 0) 0 0 = ni v) (hv6 : v < 1000000) (hc : gI (ct 0) 0 7 = ni c) (hc6 : c < 1000000) : ∃ m1, F_X11_note 0 m = some (ni (noteN (ct 0) n v c).length, m1) ∧ Qf m m1 := by
  obtain ⟨q, ha, wf, g⟩ := IC_ctx p h
  obtain ⟨m1, x1, x2, x3, x4⟩ := c_note (s := 16) (n := n) (B := B) (v := v) (c := c) (.inl rfl) g (by rw [ha]; exact wf) (by rw [ha]; exact hv) hv6 (by rw [ha]; exact hc) hc6
  rw [ha] at x2
  have g1 := G_fr x3 g
  refine ⟨m1, ?_, Qf_of x3 (fun b z => by unfold A4 at z; unfold SQ; omega)⟩
  unfold F_X11_note
  simp only [gO0 g, gd_t, gR0_10 g, gR0_6 g, oc_s, gO45 g, bdE x1, gO0 g1, gR0_10 g1, gO45 g1, x2.1]
theorem Qr_4 {m m' : Mm} (f : Nr4 m m') : Qr m m' := ⟨Fm_mono (fun b z => by unfold AQR; omega) f.1, fun j hj => f.2 j (by unfold jP at hj; omega)⟩
theorem qr_note {n l len : Nat} {cs : Nat → Nat} {bk : List (Nat × Nat)} {y : Nat → Nat} {t : Nat} {pl rf : Int32} {ru : Nat → Int32} {pk ik : Nat} {jk : Nat → Nat} {ct : Nat → St} {B v c : Nat} {m : Mm} (p : IP n l len cs bk pk ik jk ct B) (g : G m) (h : IR n l len cs bk y t pl rf ru pk ik jk ct m) (hv : gI (ct 0) 0 0 = ni v) (hv6 : v < 1000000) (hc : gI (ct 0) 0 7 = ni c) (hc6 : c < 1000000) : ∃ m1, F_X12_note 49 m = some (ni (noteN (ct 0) n v c).length, m1) ∧ Qr m m1 := by
  have g0 : G (wI m 49 0 0) := G_wI g
  have rc := IR_RC p g0 (IR_0 0 h)
  have rr := IR_now (IR_0 0 h)
  obtain ⟨m1, x1, x2, x3⟩ := r_note (n := n) p.1 ⟨g0, rc.2.1, rr⟩ hv hv6 hc hc6
  have g1 := G_fr x3.1 g0
  refine ⟨m1, ?_, Qr_trans (Qr_0 m 0) (Qr_4 x3)⟩
  unfold F_X12_note
  simp only [gO49 g, gO49 g0, gd_t, lt9_e, bdE x1, gO49 g1, x2.1]
def spltP (l : List Nat) (x : Int32) : Int32 := if ni l.length ≤ x then -1 else ni (l.getD (ix x) 0)
theorem qc_spelt {n l len : Nat} {cs : Nat → Nat} {bk : List (Nat × Nat)} {y : Nat → Nat} {t : Nat} {pl rf : Int32} {ru : Nat → Int32} {pk ik : Nat} {jk : Nat → Nat} {ct : Nat → St} {B v c : Nat} {m : Mm} {x : Int32} (p : IP n l len cs bk pk ik jk ct B) (h : IC n l len cs bk y t pl rf ru pk ik jk ct m) (hN : mN m + 1 < K9) (hv : gI (ct 0) 0 0 = ni v) (hv6 : v < 1000000) (hc : gI (ct 0) 0 7 = ni c) (hc6 : c < 1000000) : CA (F_X11_spelt 0 x m) (if x < 0 then .inr 1 else .inl (spltP (noteN (ct 0) n v c) x) : Int32 ⊕ Nat) m := by
  obtain ⟨q, ha, wf, g⟩ := IC_ctx p h
  by_cases hx : x < 0
  · rw [if_pos hx]
    have hx' := eq_true hx
    have k2 := need_f g hN
    rw [b2i_f] at k2
    refine ⟨by omega, 6, by omega, ?_⟩
    unfold F_X11_spelt
    simp only [jn_e, hx', if_true, gO0 g, gd_t, bxR k2]
  · rw [if_neg hx]
    have hx' := eq_false hx
    have k2 : F_X11_need 0 1 m = some (.inl (), m) := c_need1
    obtain ⟨m1, x1, x2, x3, x4⟩ := c_note (s := 16) (n := n) (B := B) (v := v) (c := c) (.inl rfl) g (by rw [ha]; exact wf) (by rw [ha]; exact hv) hv6 (by rw [ha]; exact hc) hc6
    rw [ha] at x2 x4
    have g1 := G_fr x3 g
    have k3 : F_X4_signAt 45 x m1 = some (spltP (noteN (ct 0) n v c) x, m1) := by
      unfold F_X4_signAt spltP
      by_cases hl : ni (noteN (ct 0) n v c).length ≤ x
      · have hl' := eq_true hl
        simp only [hx', if_false, gO45 g1, gd_t, x2.1, hl', if_true]
      · have hl' := eq_false hl
        obtain ⟨j, hj, rfl⟩ := ni_of hx (n := (noteN (ct 0) n v c).length) (by omega) hl
        have e64 : (ni 64 ≤ ni j) = False := eq_false (fun z => by rw [ni_le (by omega) (by omega)] at z; omega)
        simp only [hx', if_false, gO45 g1, gd_t, x2.1, hl', gR45_0 g1, oc_s, gT46 g1, gN46 g1, e64, gA46 g1 (show j < 64 by omega), ix_ni (show j < 2147483648 by omega), x2.2 j hj]
    refine ⟨m1, ?_, Qf_of x3 (fun b z => by unfold A4 at z; unfold SQ; omega)⟩
    unfold F_X11_spelt
    simp only [jn_e, hx', if_false, gO0 g, gd_t, bxL k2, gR0_10 g, gR0_6 g, oc_s, gO45 g, bdE x1, gO0 g1, gR0_10 g1, gO45 g1, bdE k3]
theorem note_len {n B v c : Nat} {σ : St} (wf : WF n B σ) (hv6 : v < 1000000) (hc6 : c < 1000000) : (noteN σ n v c).length ≤ 60 := by
  have hn := WF_6 wf
  have h0 : (headN v).length ≤ 8 := by
    unfold headN
    have := dgs_len hv6
    simp only [List.length_append, List.length_cons, List.length_nil]
    omega
  have z := itn_inv (f := ntF σ) (P := fun i q => q.2.length ≤ 8 + 4 * i) n 0 (true, headN v) (by show (headN v).length ≤ _; omega) (fun k b h1 h2 h3 => nt_len σ (by omega) h3)
  have := dgs_len hc6
  unfold noteN
  simp only [List.length_append, List.length_cons, List.length_nil]
  simp only [Nat.zero_add] at z
  omega
theorem qr_spelt {n l len : Nat} {cs : Nat → Nat} {bk : List (Nat × Nat)} {y : Nat → Nat} {t : Nat} {pl rf : Int32} {ru : Nat → Int32} {pk ik : Nat} {jk : Nat → Nat} {ct : Nat → St} {B v c : Nat} {m : Mm} {x : Int32} (p : IP n l len cs bk pk ik jk ct B) (g : G m) (h : IR n l len cs bk y t pl rf ru pk ik jk ct m) (hv : gI (ct 0) 0 0 = ni v) (hv6 : v < 1000000) (hc : gI (ct 0) 0 7 = ni c) (hc6 : c < 1000000) : RA (F_X12_spelt 49 x m) (if x < 0 then .inr 1 else .inl (spltP (noteN (ct 0) n v c) x) : Int32 ⊕ Nat) hx_L_spelt 0 m := by
  have g0 : G (wI m 49 0 0) := G_wI g
  have rc := IR_RC p g0 (IR_0 0 h)
  have rr := IR_now (IR_0 0 h)
  have wf : WF n B (ct 0) := p.2.2.2.2.2.2.2 0 (Val_0 _ _ _)
  have e0 := w0_0 m
  have b0 := bad_f (c := 1) (r := 1) g0 e0
  have b1 : F_X12_bad 49 1 1 1 (wI m 49 0 0) = some (1, bdM m 1 1) := bad_t (k := 1) g (by omega) (by decide)
  by_cases hx : x < 0
  · rw [if_pos hx]
    have hx' : ((0 : Int32) ≤ x) = False := eq_false (Int32.not_le.mpr hx)
    refine ⟨1, rfl, ?_⟩
    unfold F_X12_spelt
    simp only [gO49 g, gO49 g0, gd_t, lt9_e, jn_e, hx', if_false, bdE b1, ↓i10]
  · rw [if_neg hx]
    have hx' : ((0 : Int32) ≤ x) = True := eq_true (Int32.not_lt.mp hx)
    obtain ⟨m1, x1, x2, x3⟩ := r_note (n := n) p.1 ⟨g0, rc.2.1, rr⟩ hv hv6 hc hc6
    have g1 := G_fr x3.1 g0
    have l60 := note_len (n := n) wf hv6 hc6
    refine ⟨m1, ?_, by rw [x3.2 0 (by omega)]; exact e0, Qr_trans (Qr_0 m 0) (Qr_4 x3)⟩
    unfold F_X12_spelt spltP
    by_cases hl : ni (noteN (ct 0) n v c).length ≤ x
    · have hl' := eq_true hl
      simp only [gO49 g, gO49 g0, gO49 g1, gd_t, lt9_e, jn_e, hx', if_true, bdE b0, ↓i00, bdE x1, x2.1, hl']
    · have hl' := eq_false hl
      obtain ⟨j, hj, rfl⟩ := ni_of hx (n := (noteN (ct 0) n v c).length) (by omega) hl
      simp only [gO49 g, gO49 g0, gO49 g1, gd_t, lt9_e, jn_e, hx', if_true, bdE b0, ↓i00, bdE x1, x2.1, hl', if_false, gR49_34 g1, oc_s, gA496 g1 (show j < 60 by omega), ix_ni (show j < 2147483648 by omega), x2.2 j hj]
/-! status, count -/
def statP (ru : Nat → Int32) (x : Int32) : Int32 := if ¬ x < 0 ∧ ¬ 3 < x then ru (ix x) else -1
theorem qc_status {n l len : Nat} {cs : Nat → Nat} {bk : List (Nat × Nat)} {y : Nat → Nat} {t : Nat} {pl rf : Int32} {ru : Nat → Int32} {pk ik : Nat} {jk : Nat → Nat} {ct : Nat → St} {m : Mm} {x : Int32} (h : IC n l len cs bk y t pl rf ru pk ik jk ct m) : ∃ m1, F_X11_status 0 x m = some (statP ru x, m1) ∧ Qf m m1 := by
  have g := h.1
  have e := h.2.2.2.2.2.2.2.2.1
  have w := wth x 0 3 m
  have l3 : ln m 48 - 1 = 3 := by
    rw [gN48 g]
    decide
  refine ⟨m, ?_, Qf_refl m⟩
  unfold F_X11_status statP
  by_cases hx : ¬ x < 0 ∧ ¬ 3 < x
  · rw [decide_eq_true hx, b2i_t] at w
    rw [if_pos hx]
    obtain ⟨j, hj, rfl⟩ := ni_of hx.1 (n := 4) (by omega) (fun z => hx.2 (by
      rw [nx_of hx.1, ni_le (by omega) (ix_B x)] at z
      rw [nx_of hx.1, show (3 : Int32) = ni 3 from rfl, ni_lt (by omega) (ix_B x)]
      omega))
    simp only [gO0 g, gd_t, gR0_12 g, oc_s, gT48 g, l3, bdE w, ↓i10, gA48 g hj, ix_ni (show j < 2147483648 by omega), e j hj]
  · rw [decide_eq_false hx, b2i_f] at w
    rw [if_neg hx]
    simp only [gO0 g, gd_t, gR0_12 g, oc_s, gT48 g, l3, bdE w, ↓i00, if_true]
theorem qr_status {n l len : Nat} {cs : Nat → Nat} {bk : List (Nat × Nat)} {y : Nat → Nat} {t : Nat} {pl rf : Int32} {ru : Nat → Int32} {pk ik : Nat} {jk : Nat → Nat} {ct : Nat → St} {m : Mm} {x : Int32} (g : G m) (h : IR n l len cs bk y t pl rf ru pk ik jk ct m) : ∃ m1, F_X12_status 49 x m = some (statP ru x, m1) ∧ Qr m m1 := by
  have g0 : G (wI m 49 0 0) := G_wI g
  have e := (IR_0 0 h).2.2.2.2.2.2.1
  have w := inr x 0 3 (wI m 49 0 0)
  refine ⟨wI m 49 0 0, ?_, Qr_0 m 0⟩
  unfold F_X12_status statP
  by_cases hx : ¬ x < 0 ∧ ¬ 3 < x
  · rw [decide_eq_true hx, b2i_t] at w
    rw [if_pos hx]
    obtain ⟨j, hj, rfl⟩ := ni_of hx.1 (n := 4) (by omega) (fun z => hx.2 (by
      rw [nx_of hx.1, ni_le (by omega) (ix_B x)] at z
      rw [nx_of hx.1, show (3 : Int32) = ni 3 from rfl, ni_lt (by omega) (ix_B x)]
      omega))
    simp only [gO49 g, gO49 g0, gd_t, lt9_e, bdE w, ↓i10, gR49_10 g0, oc_s, gA51 g0 hj, ix_ni (show j < 2147483648 by omega), e j hj]
  · rw [decide_eq_false hx, b2i_f] at w
    rw [if_neg hx]
    simp only [gO49 g, gO49 g0, gd_t, lt9_e, bdE w, ↓i00, if_true]
def cntP (t pk ik : Nat) (x : Int32) : Int32 := if x = 0 then ni ik else if x = 1 then ni t else if x = 2 then ni pk else -1
theorem qc_count {n l len : Nat} {cs : Nat → Nat} {bk : List (Nat × Nat)} {y : Nat → Nat} {t : Nat} {pl rf : Int32} {ru : Nat → Int32} {pk ik : Nat} {jk : Nat → Nat} {ct : Nat → St} {m : Mm} {x : Int32} (h : IC n l len cs bk y t pl rf ru pk ik jk ct m) : ∃ m1, F_X11_count 0 x m = some (cntP t pk ik x, m1) ∧ Qf m m1 := by
  have g := h.1
  have e1 := h.2.2.2.2.2.1.1
  have e2 := h.2.2.2.2.2.2.2.2.2.2.1
  have e3 := h.2.2.2.2.2.2.2.2.2.2.2.1
  refine ⟨m, ?_, Qf_refl m⟩
  unfold F_X11_count cntP
  rw [gO0 g, gd_t, gd_t, gd_t, gR0_0 g, oc_s, gO1 g, gd_t, gR0_8 g, oc_s, gO42 g, gd_t, e1, e2, e3]
  split
  · rfl
  · split
    · rfl
    · split <;> rfl
theorem qr_count {n l len : Nat} {cs : Nat → Nat} {bk : List (Nat × Nat)} {y : Nat → Nat} {t : Nat} {pl rf : Int32} {ru : Nat → Int32} {pk ik : Nat} {jk : Nat → Nat} {ct : Nat → St} {m : Mm} {x : Int32} (g : G m) (h : IR n l len cs bk y t pl rf ru pk ik jk ct m) : ∃ m1, F_X12_count 49 x m = some (cntP t pk ik x, m1) ∧ Qr m m1 := by
  have g0 : G (wI m 49 0 0) := G_wI g
  have h' := IR_0 0 h
  have e1 := h'.2.2.2.1.1
  have e2 := h'.2.2.2.2.2.2.2.1
  have e3 := h'.2.2.2.2.2.2.2.2.1
  refine ⟨wI m 49 0 0, ?_, Qr_0 m 0⟩
  unfold F_X12_count cntP
  rw [gO49 g, gd_t, lt9_e, gO49 g0, gd_t, gd_t, gd_t, e1, e2, e3]
  split
  · rfl
  · split
    · rfl
    · split <;> rfl
