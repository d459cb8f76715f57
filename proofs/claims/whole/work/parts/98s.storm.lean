/-! L2: storm, span. -/
theorem WF_bl {n B len l : Nat} {cs : Nat → Nat} {w : Int32} {x : Int32} {σ : St} (wf : WF n B σ) (hB : B + 200 < 1000000) (hl : l ≤ 30) : ∀ t, t ≤ 96 → WF n (B + 2 * t) (blP cs len n l w t 0 (x, σ)).2 := by
  intro t ht
  unfold blP
  have z := itn_inv (f := fun _ q => if n = 0 then q else gsF cs len n l w q) (P := fun i q => WF n (B + 2 * i) q.2) t 0 (x, σ) wf (fun k q h1 h2 h3 => by
    show WF n (B + 2 * (k + 1)) (if n = 0 then q else gsF cs len n l w q).2
    by_cases e : n = 0
    · rw [if_pos e]
      exact WF_B h3 (by omega) (by omega)
    · rw [if_neg e]
      have y := WF_gs (cs := cs) (len := len) (l := l) (a := dwN (dwS q.1) % n) (r := dwN (dwS (dwS q.1)) % 8) (v := dwN (dwS (dwS (dwS q.1))) % 100) (d := decide (w ≤ ni (dwN (dwS (dwS (dwS q.1))) % 16))) (Nat.mod_lt _ (by omega)) h3 (by omega) hl
      rw [show B + 2 * (k + 1) = B + 2 * k + 2 by omega]
      exact y)
  rw [Nat.zero_add] at z
  exact z
def stT (cs : Nat → Nat) (len n l : Nat) (w : Int32) (t : Nat) (x : Int32) (σ : St) : St := (blP cs len n l w t 0 (x, σ)).2
def stA (cs : Nat → Nat) (len n : Nat) (τ : St) (v : Int32) : Int32 := if v = 0 then gI τ 0 0 else if v = 1 then gI τ 0 1 else if v = 2 then gI τ 0 7 else b2i (wouldAgree τ (survN cs len n τ))
theorem AG_SQ {m m' : Mm} (f : Fm (AG 29) m m') : Qf m m' := Qf_of f (fun b z => by unfold AG AV AQ reg at z; unfold SQ; omega)
theorem in_96 {a : Int32} (h : ¬ a < 1 ∧ ¬ 96 < a) : ∃ t, 1 ≤ t ∧ t ≤ 96 ∧ a = ni t := by
  have h0 : ¬ a < 0 := fun z => h.1 (by
    rw [Int32.lt_iff_toInt_lt] at z ⊢
    have e0 : (0 : Int32).toInt = 0 := by decide
    have e1 : (1 : Int32).toInt = 1 := by decide
    omega)
  refine ⟨ix a, ?_, ?_, nx_of h0⟩
  · have z := h.1
    rw [nx_of h0, show (1 : Int32) = ni 1 from rfl, ni_lt (ix_B a) (by omega)] at z
    omega
  · have z := h.2
    rw [nx_of h0, show (96 : Int32) = ni 96 from rfl, ni_lt (by omega) (ix_B a)] at z
    omega
theorem in_10 {a : Int32} (h : ¬ a < 1 ∧ ¬ 10 < a) : ∃ t, 1 ≤ t ∧ t ≤ 10 ∧ a = ni t := by
  have h0 : ¬ a < 0 := fun z => h.1 (by
    rw [Int32.lt_iff_toInt_lt] at z ⊢
    have e0 : (0 : Int32).toInt = 0 := by decide
    have e1 : (1 : Int32).toInt = 1 := by decide
    omega)
  refine ⟨ix a, ?_, ?_, nx_of h0⟩
  · have z := h.1
    rw [nx_of h0, show (1 : Int32) = ni 1 from rfl, ni_lt (ix_B a) (by omega)] at z
    omega
  · have z := h.2
    rw [nx_of h0, show (10 : Int32) = ni 10 from rfl, ni_lt (by omega) (ix_B a)] at z
    omega
theorem qc_storm {n l len : Nat} {cs : Nat → Nat} {bk : List (Nat × Nat)} {y : Nat → Nat} {t : Nat} {pl rf : Int32} {ru : Nat → Int32} {pk ik : Nat} {jk : Nat → Nat} {ct : Nat → St} {B : Nat} {m : Mm} {x a w v : Int32} (p : IP n l len cs bk pk ik jk ct B) (hB : B + 200 < 1000000) (h : IC n l len cs bk y t pl rf ru pk ik jk ct m) (hN : mN m + 1 < K9) : CA (F_X11_storm 0 x a w v m) (if ((¬ a < 1 ∧ ¬ 96 < a) ∧ (¬ w < 0 ∧ ¬ 16 < w) ∧ (¬ v < 0 ∧ ¬ 3 < v)) then .inl (stA cs len n (stT cs len n l w (ix a) x (ct 0)) v) else .inr 1 : Int32 ⊕ Nat) m := by
  obtain ⟨q, ha, wf, g⟩ := IC_ctx p h
  have w1 := wth a 1 96 m
  have w2 := wth w 0 16 m
  have w3 := wth v 0 3 m
  have k1 : F_X11_need 0 1 m = some (.inl (), m) := c_need1
  have k0 := need_f g hN
  rw [b2i_f] at k0
  by_cases h1 : ¬ a < 1 ∧ ¬ 96 < a
  · rw [decide_eq_true h1, b2i_t] at w1
    by_cases h2 : ¬ w < 0 ∧ ¬ 16 < w
    · rw [decide_eq_true h2, b2i_t] at w2
      by_cases h3 : ¬ v < 0 ∧ ¬ 3 < v
      · rw [decide_eq_true h3, b2i_t] at w3
        rw [if_pos ⟨h1, h2, h3⟩]
        obtain ⟨t', ht1, ht, rfl⟩ := in_96 h1
        rw [ix_ni (by omega)]
        obtain ⟨m1, m2, x1, x2, x3, x4, x5, x6⟩ := c_stormS (x := x) (w := w) q (by rw [ha]; exact wf) ht hB p.2.1 h.2.2.1.2
        rw [ha] at x4 x6
        have g2 := G_fr x5 g
        have c29 := G_29 g2
        have x4' : absC m2 29 = stT cs len n l w t' x (ct 0) := x4
        have x6' : WF n (B + 2 * t') (stT cs len n l w t' x (ct 0)) := x6
        have q2 := AG_q q (.inr rfl) x5
        generalize hτ : stT cs len n l w t' x (ct 0) = τ at *
        unfold stA
        by_cases z0 : v = 0
        · have z0' := eq_true z0
          have f0 : rI m2 29 0 = gI τ 0 0 := by rw [rI_o0 29 m2 (by omega), x4']
          rw [if_pos z0]
          refine ⟨m2, ?_, AG_SQ x5⟩
          unfold F_X11_storm
          simp only [gO0 g, gd_t, jn_e, bdE w1, bdE w2, bdE w3, ↓i10, bxL k1, gR0_7 g, gR0_6 g, oc_s, gO29 g, bdE x1, gO0 x2, gR0_11 x2, gR0_7 x2, gR0_5 x2, gO47 x2, bdE x3, z0', if_true, gO0 g2, gR0_7 g2, gO29 g2, f0]
        · have z0' := eq_false z0
          rw [if_neg z0]
          by_cases z1 : v = 1
          · have z1' := eq_true z1
            have f0 : rI m2 29 1 = gI τ 0 1 := by rw [rI_o0 29 m2 (by omega), x4']
            rw [if_pos z1]
            refine ⟨m2, ?_, AG_SQ x5⟩
            unfold F_X11_storm
            simp only [gO0 g, gd_t, jn_e, bdE w1, bdE w2, bdE w3, ↓i10, bxL k1, gR0_7 g, gR0_6 g, oc_s, gO29 g, bdE x1, gO0 x2, gR0_11 x2, gR0_7 x2, gR0_5 x2, gO47 x2, bdE x3, z0', z1', if_true, if_false, gO0 g2, gR0_7 g2, gO29 g2, f0]
          · have z1' := eq_false z1
            rw [if_neg z1]
            by_cases z2 : v = 2
            · have z2' := eq_true z2
              have f0 : rI m2 29 7 = gI τ 0 7 := by rw [rI_o0 29 m2 (by omega), x4']
              rw [if_pos z2]
              refine ⟨m2, ?_, AG_SQ x5⟩
              unfold F_X11_storm
              simp only [gO0 g, gd_t, jn_e, bdE w1, bdE w2, bdE w3, ↓i10, bxL k1, gR0_7 g, gR0_6 g, oc_s, gO29 g, bdE x1, gO0 x2, gR0_11 x2, gR0_7 x2, gR0_5 x2, gO47 x2, bdE x3, z0', z1', z2', if_true, if_false, gO0 g2, gR0_7 g2, gO29 g2, f0]
            · have z2' := eq_false z2
              rw [if_neg z2]
              obtain ⟨m3, y1, -, y3⟩ := c_survNow (s := 29) (.inr rfl) q2 (bel_st (by rw [x4']; exact x6'))
              rw [x4'] at y1
              have g3 := G_fr y3 g2
              have k5 := c_wouldAgree (x := survN cs len n τ) (G_29 g3)
              rw [abs_q (.inr rfl) y3, x4'] at k5
              refine ⟨m3, ?_, Qf_trans (AG_SQ x5) (Qf_AQ y3)⟩
              unfold F_X11_storm
              cases ew : wouldAgree τ (survN cs len n τ) with
              | false =>
                rw [ew, b2i_f] at k5
                simp only [gO0 g, gd_t, jn_e, bdE w1, bdE w2, bdE w3, ↓i10, ↓i00, if_true, bxL k1, gR0_7 g, gR0_6 g, oc_s, gO29 g, bdE x1, gO0 x2, gR0_11 x2, gR0_7 x2, gR0_5 x2, gO47 x2, bdE x3, z0', z1', z2', if_false, gO0 g2, gR0_7 g2, gR0_5 g2, gO14 g2, bdE y1, gO29 g3, bdE k5, b2i_f]
              | true =>
                rw [ew, b2i_t] at k5
                simp only [gO0 g, gd_t, jn_e, bdE w1, bdE w2, bdE w3, ↓i10, ↓i00, if_true, bxL k1, gR0_7 g, gR0_6 g, oc_s, gO29 g, bdE x1, gO0 x2, gR0_11 x2, gR0_7 x2, gR0_5 x2, gO47 x2, bdE x3, z0', z1', z2', if_false, gO0 g2, gR0_7 g2, gR0_5 g2, gO14 g2, bdE y1, gO29 g3, bdE k5, b2i_t]
      · rw [decide_eq_false h3, b2i_f] at w3
        rw [if_neg (fun z => h3 z.2.2)]
        refine ⟨by omega, 6, by omega, ?_⟩
        unfold F_X11_storm
        simp only [gO0 g, gd_t, jn_e, bdE w1, bdE w2, bdE w3, ↓i10, ↓i00, if_true, bxR k0]
    · rw [decide_eq_false h2, b2i_f] at w2
      rw [if_neg (fun z => h2 z.2.1)]
      refine ⟨by omega, 6, by omega, ?_⟩
      unfold F_X11_storm
      simp only [gO0 g, gd_t, jn_e, bdE w1, bdE w2, ↓i10, ↓i00, if_true, bxR k0]
  · rw [decide_eq_false h1, b2i_f] at w1
    rw [if_neg (fun z => h1 z.1)]
    refine ⟨by omega, 6, by omega, ?_⟩
    unfold F_X11_storm
    simp only [gO0 g, gd_t, jn_e, bdE w1, ↓i00, if_true, bxR k0]
theorem r_isStorm (a w : Int32) (m : Mm) : F_X12_isStorm a w m = some (b2i (decide ((¬ a < 1 ∧ ¬ 96 < a) ∧ (¬ w < 0 ∧ ¬ 16 < w))), m) := by
  have w1 := inr a 1 96 m
  have w2 := inr w 0 16 m
  unfold F_X12_isStorm
  by_cases h1 : ¬ a < 1 ∧ ¬ 96 < a
  · rw [decide_eq_true h1, b2i_t] at w1
    by_cases h2 : ¬ w < 0 ∧ ¬ 16 < w
    · rw [decide_eq_true h2, b2i_t] at w2
      rw [decide_eq_true ⟨h1, h2⟩]
      simp only [bdE w1, bdE w2, ↓i10, b2i_t]
    · rw [decide_eq_false h2, b2i_f] at w2
      rw [decide_eq_false (fun z => h2 z.2)]
      simp only [bdE w1, bdE w2, ↓i10, ↓i00, if_true, b2i_f]
  · rw [decide_eq_false h1, b2i_f] at w1
    rw [decide_eq_false (fun z => h1 z.1)]
    simp only [bdE w1, ↓i00, if_true, b2i_f]
theorem Qr_gw {m m' : Mm} (f : Gw 474 m m') : Qr m m' := ⟨Fm_mono (fun b z => by unfold AW at z; unfold AQR; omega) f.1, fun j hj => f.2 j (by unfold jP at hj; omega)⟩
theorem qr_storm {n l len : Nat} {cs : Nat → Nat} {bk : List (Nat × Nat)} {y : Nat → Nat} {t : Nat} {pl rf : Int32} {ru : Nat → Int32} {pk ik : Nat} {jk : Nat → Nat} {ct : Nat → St} {B : Nat} {m : Mm} {x a w v : Int32} (p : IP n l len cs bk pk ik jk ct B) (hB : B + 200 < 1000000) (g : G m) (h : IR n l len cs bk y t pl rf ru pk ik jk ct m) : RA (F_X12_storm 49 x a w v m) (if ((¬ a < 1 ∧ ¬ 96 < a) ∧ (¬ w < 0 ∧ ¬ 16 < w) ∧ (¬ v < 0 ∧ ¬ 3 < v)) then .inl (stA cs len n (stT cs len n l w (ix a) x (ct 0)) v) else .inr 1 : Int32 ⊕ Nat) hx_L_storm 0 m := by
  have g0 : G (wI m 49 0 0) := G_wI g
  have h' := IR_0 0 h
  have rc := IR_RC p g0 h'
  have rr := IR_now h'
  have wf : WF n B (ct 0) := p.2.2.2.2.2.2.2 0 (Val_0 _ _ _)
  have e0 := w0_0 m
  have b0 := bad_f (c := 1) (r := 1) g0 e0
  have b1 : F_X12_bad 49 1 1 1 (wI m 49 0 0) = some (1, bdM m 1 1) := bad_t (k := 1) g (by omega) (by decide)
  have w1 := r_isStorm a w (wI m 49 0 0)
  have w3 := inr v 0 3 (wI m 49 0 0)
  by_cases h1 : (¬ a < 1 ∧ ¬ 96 < a) ∧ (¬ w < 0 ∧ ¬ 16 < w)
  · rw [decide_eq_true h1, b2i_t] at w1
    by_cases h3 : ¬ v < 0 ∧ ¬ 3 < v
    · rw [decide_eq_true h3, b2i_t] at w3
      rw [if_pos ⟨h1.1, h1.2, h3⟩]
      obtain ⟨t', ht1, ht, rfl⟩ := in_96 h1.1
      rw [ix_ni (by omega)]
      obtain ⟨m1, x1, x2, x3⟩ := r_stormS (x := x) (y := w) rc rr wf ht hB p.2.1
      have wt := WF_bl (cs := cs) (len := len) (l := l) (w := w) (x := x) wf hB p.2.1 t' ht
      have c1 := RC_gw (.inr rfl) rc x3
      have g1 := c1.1
      have x2' : RR (rI m1 474) (stT cs len n l w t' x (ct 0)) := x2
      have wt' : WF n (B + 2 * t') (stT cs len n l w t' x (ct 0)) := wt
      have e1 : rI m1 49 0 = 0 := by rw [x3.2 0 (by omega)]; exact e0
      generalize hτ : stT cs len n l w t' x (ct 0) = τ at *
      unfold stA
      by_cases z0 : v = 0
      · have z0' := eq_true z0
        have r1 : rI m1 474 (ix (181 : Int32)) = gI τ 0 0 := RR181 x2'
        rw [if_pos z0]
        refine ⟨m1, ?_, e1, Qr_trans (Qr_0 m 0) (Qr_gw x3)⟩
        unfold F_X12_storm
        simp only [gO49 g, gO49 g0, gd_t, lt9_e, jn_e, bdE w1, bdE w3, ↓i10, ↓i00, bdE b0, bdE x1, z0', if_true, gO49 g1, gR49_24 g1, oc_s, gK474 g1 (show 181 < 968 by omega), r1]
      · have z0' := eq_false z0
        rw [if_neg z0]
        by_cases z1 : v = 1
        · have z1' := eq_true z1
          have r1 : rI m1 474 (ix (182 : Int32)) = gI τ 0 1 := RR182 x2'
          rw [if_pos z1]
          refine ⟨m1, ?_, e1, Qr_trans (Qr_0 m 0) (Qr_gw x3)⟩
          unfold F_X12_storm
          simp only [gO49 g, gO49 g0, gd_t, lt9_e, jn_e, bdE w1, bdE w3, ↓i10, ↓i00, bdE b0, bdE x1, z0', z1', if_true, if_false, gO49 g1, gR49_24 g1, oc_s, gK474 g1 (show 182 < 968 by omega), r1]
        · have z1' := eq_false z1
          rw [if_neg z1]
          by_cases z2 : v = 2
          · have z2' := eq_true z2
            have r1 : rI m1 474 (ix (187 : Int32)) = gI τ 0 7 := RR187 x2'
            rw [if_pos z2]
            refine ⟨m1, ?_, e1, Qr_trans (Qr_0 m 0) (Qr_gw x3)⟩
            unfold F_X12_storm
            simp only [gO49 g, gO49 g0, gd_t, lt9_e, jn_e, bdE w1, bdE w3, ↓i10, ↓i00, bdE b0, bdE x1, z0', z1', z2', if_true, if_false, gO49 g1, gR49_24 g1, oc_s, gK474 g1 (show 187 < 968 by omega), r1]
          · have z2' := eq_false z2
            rw [if_neg z2]
            obtain ⟨m2, y1, y2⟩ := r_agreeBy (w := 474) (.inr rfl) wt' c1 x2'
            refine ⟨m2, ?_, by rw [(y2.1 49 (by unfold AW; omega)).1]; exact e1, Qr_trans (Qr_0 m 0) (Qr_trans (Qr_gw x3) (Qr_AW y2))⟩
            unfold F_X12_storm
            cases ew : wouldAgree τ (survN cs len n τ) with
            | false =>
              rw [ew, b2i_f] at y1
              simp only [gO49 g, gO49 g0, gd_t, lt9_e, jn_e, bdE w1, bdE w3, ↓i10, ↓i00, if_true, bdE b0, bdE x1, z0', z1', z2', if_false, gO49 g1, gR49_24 g1, oc_s, bdE y1, b2i_f]
            | true =>
              rw [ew, b2i_t] at y1
              simp only [gO49 g, gO49 g0, gd_t, lt9_e, jn_e, bdE w1, bdE w3, ↓i10, ↓i00, if_true, bdE b0, bdE x1, z0', z1', z2', if_false, gO49 g1, gR49_24 g1, oc_s, bdE y1, b2i_t]
    · rw [decide_eq_false h3, b2i_f] at w3
      rw [if_neg (fun z => h3 z.2.2)]
      refine ⟨1, rfl, ?_⟩
      unfold F_X12_storm
      simp only [gO49 g, gO49 g0, gd_t, lt9_e, jn_e, bdE w1, bdE w3, ↓i10, ↓i00, if_true, bdE b1]
  · rw [decide_eq_false h1, b2i_f] at w1
    rw [if_neg (fun z => h1 ⟨z.1, z.2.1⟩)]
    refine ⟨1, rfl, ?_⟩
    unfold F_X12_storm
    simp only [gO49 g, gO49 g0, gd_t, lt9_e, jn_e, bdE w1, ↓i10, ↓i00, if_true, bdE b1]
/-! span -/
def sqF (T : Nat → St) (k i : Nat) (q : Int32 × Int32 × Int32) : Int32 × Int32 × Int32 := (mnI q.1 (gI (T i) 0 0), mxI q.2.1 (gI (T i) 0 0), q.2.2 + b2i (stands (T i) k))
def spI (T : Nat → St) (k s : Nat) : Int32 × Int32 × Int32 := itn (sqF T k) s 0 (2147483647, 0, 0)
def spA (q : Int32 × Int32 × Int32) (v : Int32) : Int32 := if v = 0 then q.1 else if v = 1 then q.2.1 else q.2.2
def spT (cs : Nat → Nat) (len n l : Nat) (w : Int32) (t : Nat) (x : Int32) (σ : St) (i : Nat) : St := stT cs len n l w t (x + ni i) σ
theorem mn_big (x : Int32) : mnI 2147483647 x = x := by
  unfold mnI
  by_cases h : x < 2147483647
  · rw [if_pos h]
  · rw [if_neg h]
    apply Int32.toInt_inj.mp
    rw [Int32.lt_iff_toInt_lt] at h
    have e : (2147483647 : Int32).toInt = 2147483647 := by decide
    have := Int32.toInt_lt x
    omega
def loC (i : Nat) (x : Int32) : Int32 := if i = 0 then 0 else x
theorem c_spanL {K : Int32 → Int32 → Int32 → Int32 → Mm → Option ((Int32 ⊕ Nat) × Mm)} {n len B l t s k : Nat} {cs : Nat → Nat} {x w v : Int32} {σ : St} (wf : WF n B σ) (ht : t ≤ 96) (hs : s ≤ 10) (hB : B + 200 < 1000000) (hl : l ≤ 30) (hk : k < 6) : ∀ (d i fuel : Nat) (q : Int32 × Int32 × Int32) (m : Mm), i + d = s → d < fuel → QC n len cs m → absC m 16 = σ → rI m 3 2 = ni l → (i = 0 → q.1 = 2147483647) →
    ∃ m', L_X11_span_77 K fuel 0 x (ni s) (ni t) w v (ni k) (loC i q.1) q.2.1 q.2.2 (ni i) m = K v (loC s (itn (sqF (spT cs len n l w t x σ) k) d i q).1) (itn (sqF (spT cs len n l w t x σ) k) d i q).2.1 (itn (sqF (spT cs len n l w t x σ) k) d i q).2.2 m' ∧ Fm (AG 29) m m' := by
  intro d
  induction d with
  | zero =>
    intro i fuel q m hd hf hq ha h3 h0
    obtain ⟨fuel, rfl⟩ : ∃ z, fuel = z + 1 := ⟨fuel - 1, by omega⟩
    have e : (ni s ≤ ni i) = True := eq_true (by rw [ni_le (by omega) (by omega)]; omega)
    refine ⟨m, ?_, Fm_refl _ _⟩
    rw [L_X11_span_77]
    simp only [e, if_true]
    rw [show i = s by omega]
    rfl
  | succ d ih =>
    intro i fuel q m hd hf hq ha h3 h0
    obtain ⟨fuel, rfl⟩ : ∃ z, fuel = z + 1 := ⟨fuel - 1, by omega⟩
    have e : (ni s ≤ ni i) = False := eq_false (fun z => by rw [ni_le (by omega) (by omega)] at z; omega)
    have g := hq.1
    obtain ⟨m1, m2, x1, x2, x3, x4, x5, x6⟩ := c_stormS (x := x + ni i) (w := w) hq (by rw [ha]; exact wf) ht hB hl h3
    rw [ha] at x4
    have g2 := G_fr x5 g
    have c29 := G_29 g2
    have q2 := AG_q hq (.inr rfl) x5
    have x4' : absC m2 29 = spT cs len n l w t x σ i := x4
    have f0 : rI m2 29 0 = gI (spT cs len n l w t x σ i) 0 0 := by rw [rI_o0 29 m2 (by omega), x4']
    have k4 := c_stands (i := k) c29 hk
    rw [x4'] at k4
    have ip : ni i + 1 = ni (i + 1) := ni_add i 1
    obtain ⟨m', y1, y2⟩ := ih (i + 1) fuel (sqF (spT cs len n l w t x σ) k i q) m2 (by omega) (by omega) q2 ((abs_fr x5 (fun b h1 h2 z => by unfold AG AV AQ reg at z; omega)).trans ha) (by rw [(x5.1 3 (by unfold AG AV AQ reg; omega)).1]; exact h3) (fun z => by omega)
    refine ⟨m', ?_, Fm_trans x5 y2⟩
    rw [show itn (sqF (spT cs len n l w t x σ) k) (d + 1) i q = itn (sqF (spT cs len n l w t x σ) k) d (i + 1) (sqF (spT cs len n l w t x σ) k i q) from rfl, ← y1, L_X11_span_77]
    have hlo : loC (i + 1) (mnI q.1 (gI (spT cs len n l w t x σ i) 0 0)) = mnI q.1 (gI (spT cs len n l w t x σ i) 0 0) := if_neg (by omega)
    cases es : stands (spT cs len n l w t x σ i) k with
    | false =>
      rw [es, b2i_f] at k4
      have hF : sqF (spT cs len n l w t x σ) k i q = (mnI q.1 (gI (spT cs len n l w t x σ i) 0 0), mxI q.2.1 (gI (spT cs len n l w t x σ i) 0 0), q.2.2 + 0) := by unfold sqF; rw [es]; rfl
      rw [hF, hlo]
      by_cases z : i = 0
      · have z1 : (ni i = 0) = True := eq_true (by rw [z]; rfl)
        have z2 : mnI q.1 (gI (spT cs len n l w t x σ i) 0 0) = gI (spT cs len n l w t x σ i) 0 0 := by rw [h0 z, mn_big]
        simp only [e, if_false, gO0 g, gd_t, gR0_7 g, gR0_6 g, oc_s, gO29 g, bdE x1, gO0 x2, gR0_11 x2, gR0_7 x2, gR0_5 x2, gO47 x2, bdE x3, gO0 g2, gR0_7 g2, gO29 g2, f0, lt9_e, bdE k4, jn_e, z1, ↓i00, if_true, ip, z2]
      · have z1 : (ni i = 0) = False := eq_false (fun y => z ((ni_eq (b := 0) (by omega) (by omega)).mp y))
        have z2 : loC i q.1 = q.1 := if_neg z
        simp only [e, if_false, gO0 g, gd_t, gR0_7 g, gR0_6 g, oc_s, gO29 g, bdE x1, gO0 x2, gR0_11 x2, gR0_7 x2, gR0_5 x2, gO47 x2, bdE x3, gO0 g2, gR0_7 g2, gO29 g2, f0, lt9_e, bdE k4, jn_e, z1, z2, ↓i00, if_true, ip]
    | true =>
      rw [es, b2i_t] at k4
      have hF : sqF (spT cs len n l w t x σ) k i q = (mnI q.1 (gI (spT cs len n l w t x σ i) 0 0), mxI q.2.1 (gI (spT cs len n l w t x σ i) 0 0), q.2.2 + 1) := by unfold sqF; rw [es]; rfl
      rw [hF, hlo]
      by_cases z : i = 0
      · have z1 : (ni i = 0) = True := eq_true (by rw [z]; rfl)
        have z2 : mnI q.1 (gI (spT cs len n l w t x σ i) 0 0) = gI (spT cs len n l w t x σ i) 0 0 := by rw [h0 z, mn_big]
        simp only [e, if_false, gO0 g, gd_t, gR0_7 g, gR0_6 g, oc_s, gO29 g, bdE x1, gO0 x2, gR0_11 x2, gR0_7 x2, gR0_5 x2, gO47 x2, bdE x3, gO0 g2, gR0_7 g2, gO29 g2, f0, lt9_e, bdE k4, jn_e, z1, ↓i10, if_true, ip, z2]
      · have z1 : (ni i = 0) = False := eq_false (fun y => z ((ni_eq (b := 0) (by omega) (by omega)).mp y))
        have z2 : loC i q.1 = q.1 := if_neg z
        simp only [e, if_false, gO0 g, gd_t, gR0_7 g, gR0_6 g, oc_s, gO29 g, bdE x1, gO0 x2, gR0_11 x2, gR0_7 x2, gR0_5 x2, gO47 x2, bdE x3, gO0 g2, gR0_7 g2, gO29 g2, f0, lt9_e, bdE k4, jn_e, z1, z2, ↓i10, if_true, ip]
theorem qc_span {n l len : Nat} {cs : Nat → Nat} {bk : List (Nat × Nat)} {y : Nat → Nat} {t : Nat} {pl rf : Int32} {ru : Nat → Int32} {pk ik : Nat} {jk : Nat → Nat} {ct : Nat → St} {B : Nat} {m : Mm} {x s a w v b : Int32} (p : IP n l len cs bk pk ik jk ct B) (hB : B + 200 < 1000000) (h : IC n l len cs bk y t pl rf ru pk ik jk ct m) (hN : mN m + 1 < K9) : CA (F_X11_span 0 x s a w v b m) (if mbr n b then (if ((¬ s < 1 ∧ ¬ 10 < s) ∧ (¬ a < 1 ∧ ¬ 96 < a) ∧ (¬ w < 0 ∧ ¬ 16 < w) ∧ (¬ v < 0 ∧ ¬ 2 < v)) then .inl (spA (spI (spT cs len n l w (ix a) x (ct 0)) (ix b) (ix s)) v) else .inr 1) else .inr 0 : Int32 ⊕ Nat) m := by
  obtain ⟨q, ha, wf, g⟩ := IC_ctx p h
  have hn := p.1
  have h3 := q.2.1
  by_cases hm : mbr n b
  · rw [if_pos hm]
    obtain ⟨k, hk, rfl⟩ := mbr_i hn hm
    rw [ix_ni (show k < 2147483648 by omega)]
    have km := needM_ok g h3 hn hk
    have w0 := wth s 1 10 m
    have w1 := wth a 1 96 m
    have w2 := wth w 0 16 m
    have w3 := wth v 0 2 m
    have k1 : F_X11_need 0 1 m = some (.inl (), m) := c_need1
    have k0 := need_f g hN
    rw [b2i_f] at k0
    by_cases h0 : ¬ s < 1 ∧ ¬ 10 < s
    · rw [decide_eq_true h0, b2i_t] at w0
      by_cases h1 : ¬ a < 1 ∧ ¬ 96 < a
      · rw [decide_eq_true h1, b2i_t] at w1
        by_cases h2 : ¬ w < 0 ∧ ¬ 16 < w
        · rw [decide_eq_true h2, b2i_t] at w2
          by_cases h4 : ¬ v < 0 ∧ ¬ 2 < v
          · rw [decide_eq_true h4, b2i_t] at w3
            rw [if_pos ⟨h0, h1, h2, h4⟩]
            obtain ⟨t', ht1, ht, rfl⟩ := in_96 h1
            obtain ⟨s', hs1, hs, rfl⟩ := in_10 h0
            rw [ix_ni (show t' < 2147483648 by omega), ix_ni (show s' < 2147483648 by omega)]
            obtain ⟨m1, x1, x2⟩ := c_spanL (K := fun v5 v7 v8 v9 m => if v5 = 0 then some (.inl v7, m) else if v5 = 1 then some (.inl v8, m) else some (.inl v9, m)) (x := x) (w := w) (v := v) (k := k) wf ht hs hB p.2.1 (by omega) s' 0 NF (2147483647, 0, 0) m (by omega) (by unfold NF; omega) q ha h.2.2.1.2 (fun _ => rfl)
            refine ⟨m1, ?_, AG_SQ x2⟩
            unfold F_X11_span
            simp only [gO0 g, gd_t, bxL km, jn_e, bdE w0, bdE w1, bdE w2, bdE w3, ↓i10, bxL k1, lt9_e]
            have x1' : L_X11_span_77 (fun v5 v7 v8 v9 m => if v5 = 0 then some (.inl v7, m) else if v5 = 1 then some (.inl v8, m) else some (.inl v9, m)) NF 0 x (ni s') (ni t') w v (ni k) 0 0 0 0 m = _ := x1
            rw [x1']
            have zl : ∀ y, loC s' y = y := fun y => if_neg (by omega)
            rw [zl]
            unfold spA spI
            by_cases z0 : v = 0
            · rw [if_pos z0, if_pos z0]
            · rw [if_neg z0, if_neg z0]
              by_cases z1 : v = 1
              · rw [if_pos z1, if_pos z1]
              · rw [if_neg z1, if_neg z1]
          · rw [decide_eq_false h4, b2i_f] at w3
            rw [if_neg (fun z => h4 z.2.2.2)]
            refine ⟨by omega, 6, by omega, ?_⟩
            unfold F_X11_span
            simp only [gO0 g, gd_t, bxL km, jn_e, bdE w0, bdE w1, bdE w2, bdE w3, ↓i10, ↓i00, if_true, bxL k1, bxR k0]
        · rw [decide_eq_false h2, b2i_f] at w2
          rw [if_neg (fun z => h2 z.2.2.1)]
          refine ⟨by omega, 6, by omega, ?_⟩
          unfold F_X11_span
          simp only [gO0 g, gd_t, bxL km, jn_e, bdE w0, bdE w1, bdE w2, ↓i10, ↓i00, if_true, bxL k1, bxR k0]
      · rw [decide_eq_false h1, b2i_f] at w1
        rw [if_neg (fun z => h1 z.2.1)]
        refine ⟨by omega, 6, by omega, ?_⟩
        unfold F_X11_span
        simp only [gO0 g, gd_t, bxL km, jn_e, bdE w0, bdE w1, ↓i10, ↓i00, if_true, bxR k0]
    · rw [decide_eq_false h0, b2i_f] at w0
      rw [if_neg (fun z => h0 z.1)]
      refine ⟨by omega, 6, by omega, ?_⟩
      unfold F_X11_span
      simp only [gO0 g, gd_t, bxL km, jn_e, bdE w0, ↓i00, if_true, bxR k0]
  · rw [if_neg hm]
    refine ⟨by omega, 6, by omega, ?_⟩
    unfold F_X11_span
    simp only [gO0 g, gd_t, bxR (needM_no g h3 hm hN)]
def loR (i : Nat) (x : Int32) : Int32 := if i = 0 then -1 else x
theorem r_spanL {K : Int32 → Int32 → Int32 → Int32 → Mm → Option (Int32 × Mm)} {n len B l t s k : Nat} {cs : Nat → Nat} {x w v : Int32} {σ : St} (wf : WF n B σ) (ht : t ≤ 96) (hs : s ≤ 10) (hB : B + 200 < 1000000) (hl : l ≤ 30) (hk : k < 6) : ∀ (d i fuel : Nat) (q : Int32 × Int32 × Int32) (m : Mm), i + d = s → d < fuel → RC n (ni l) len cs m → RR (rI m 473) σ → (i = 0 → q.1 = 2147483647) → (i ≠ 0 → q.1 ≠ -1) →
    ∃ m', L_X12_span_85 K fuel 49 x (ni s) (ni t) w v (ni k) (loR i q.1) q.2.1 q.2.2 (ni i) m = K v (loR s (itn (sqF (spT cs len n l w t x σ) k) d i q).1) (itn (sqF (spT cs len n l w t x σ) k) d i q).2.1 (itn (sqF (spT cs len n l w t x σ) k) d i q).2.2 m' ∧ Gw 474 m m' := by
  intro d
  induction d with
  | zero =>
    intro i fuel q m hd hf hq hr h0 h1
    obtain ⟨fuel, rfl⟩ : ∃ z, fuel = z + 1 := ⟨fuel - 1, by omega⟩
    have e : (ni s ≤ ni i) = True := eq_true (by rw [ni_le (by omega) (by omega)]; omega)
    refine ⟨m, ?_, Gw_refl 474 m⟩
    rw [L_X12_span_85]
    simp only [e, if_true]
    rw [show i = s by omega]
    rfl
  | succ d ih =>
    intro i fuel q m hd hf hq hr h0 h1
    obtain ⟨fuel, rfl⟩ : ∃ z, fuel = z + 1 := ⟨fuel - 1, by omega⟩
    have e : (ni s ≤ ni i) = False := eq_false (fun z => by rw [ni_le (by omega) (by omega)] at z; omega)
    have g := hq.1
    obtain ⟨m1, x1, x2, x3⟩ := r_stormS (x := x + ni i) (y := w) hq hr wf ht hB hl
    have c1 := RC_gw (.inr rfl) hq x3
    have g1 := c1.1
    have x2' : RR (rI m1 474) (spT cs len n l w t x σ i) := x2
    have wt : WF n (B + 2 * t) (spT cs len n l w t x σ i) := WF_bl (cs := cs) (len := len) (l := l) (w := w) (x := x + ni i) wf hB hl t ht
    have r1 : rI m1 474 (ix (181 : Int32)) = gI (spT cs len n l w t x σ i) 0 0 := RR181 x2'
    have r3 : rI m1 474 (ix (183 : Int32)) = gI (spT cs len n l w t x σ i) 0 2 := RR183 x2'
    have k4 := hasR (x := gI (spT cs len n l w t x σ i) 0 2) (i := k) (by omega) m1
    rw [← st_tb wt] at k4
    have ip : ni i + 1 = ni (i + 1) := ni_add i 1
    have mo := more_mx q.2.1 (gI (spT cs len n l w t x σ i) 0 0) m1
    have le := less_mn q.1 (gI (spT cs len n l w t x σ i) 0 0) m1
    obtain ⟨b, hb0, hb, hb1, -⟩ := wt.2.1.2.2.2.2.2.2.2.2.2.1
    have hlo : loR (i + 1) (mnI q.1 (gI (spT cs len n l w t x σ i) 0 0)) = mnI q.1 (gI (spT cs len n l w t x σ i) 0 0) := if_neg (by omega)
    have hne : mnI q.1 (gI (spT cs len n l w t x σ i) 0 0) ≠ -1 := by
      by_cases z : i = 0
      · rw [h0 z, mn_big, hb1]
        exact fun z => (ni_ne1 (by have := wt.2.2; omega)).mp z
      · unfold mnI
        split
        · rw [hb1]
          exact fun z => (ni_ne1 (by have := wt.2.2; omega)).mp z
        · exact h1 z
    obtain ⟨m', y1, y2⟩ := ih (i + 1) fuel (sqF (spT cs len n l w t x σ) k i q) m1 (by omega) (by omega) c1 (by rw [(x3.1.1 473 (by unfold AW; omega)).1]; exact hr) (fun z => by omega) (fun _ => hne)
    refine ⟨m', ?_, Gw_trans x3 y2⟩
    rw [show itn (sqF (spT cs len n l w t x σ) k) (d + 1) i q = itn (sqF (spT cs len n l w t x σ) k) d (i + 1) (sqF (spT cs len n l w t x σ) k i q) from rfl, ← y1, L_X12_span_85]
    cases es : stands (spT cs len n l w t x σ i) k with
    | false =>
      rw [es, b2i_f] at k4
      have hF : sqF (spT cs len n l w t x σ) k i q = (mnI q.1 (gI (spT cs len n l w t x σ i) 0 0), mxI q.2.1 (gI (spT cs len n l w t x σ i) 0 0), q.2.2 + 0) := by unfold sqF; rw [es]; rfl
      rw [hF, hlo]
      by_cases z : i = 0
      · have z1 : loR i q.1 = -1 := if_pos z
        have z2 : mnI q.1 (gI (spT cs len n l w t x σ i) 0 0) = gI (spT cs len n l w t x σ i) 0 0 := by rw [h0 z, mn_big]
        simp only [e, if_false, gO49 g, gd_t, bdE x1, jn_e, z1, if_true, gO49 g1, gR49_24 g1, oc_s, gK474 g1 (show 181 < 968 by omega), r1, lt9_e, bdE mo, gK474 g1 (show 183 < 968 by omega), r3, bdE k4, ↓i00, ip, z2]
      · have z1 : loR i q.1 = q.1 := if_neg z
        have z3 : (q.1 = (-1 : Int32)) = False := eq_false (h1 z)
        simp only [e, if_false, gO49 g, gd_t, bdE x1, jn_e, z1, z3, gO49 g1, gR49_24 g1, oc_s, gK474 g1 (show 181 < 968 by omega), r1, lt9_e, bdE le, bdE mo, gK474 g1 (show 183 < 968 by omega), r3, bdE k4, ↓i00, if_true, ip]
    | true =>
      rw [es, b2i_t] at k4
      have hF : sqF (spT cs len n l w t x σ) k i q = (mnI q.1 (gI (spT cs len n l w t x σ i) 0 0), mxI q.2.1 (gI (spT cs len n l w t x σ i) 0 0), q.2.2 + 1) := by unfold sqF; rw [es]; rfl
      rw [hF, hlo]
      by_cases z : i = 0
      · have z1 : loR i q.1 = -1 := if_pos z
        have z2 : mnI q.1 (gI (spT cs len n l w t x σ i) 0 0) = gI (spT cs len n l w t x σ i) 0 0 := by rw [h0 z, mn_big]
        simp only [e, if_false, gO49 g, gd_t, bdE x1, jn_e, z1, if_true, gO49 g1, gR49_24 g1, oc_s, gK474 g1 (show 181 < 968 by omega), r1, lt9_e, bdE mo, gK474 g1 (show 183 < 968 by omega), r3, bdE k4, ↓i10, ip, z2]
      · have z1 : loR i q.1 = q.1 := if_neg z
        have z3 : (q.1 = (-1 : Int32)) = False := eq_false (h1 z)
        simp only [e, if_false, gO49 g, gd_t, bdE x1, jn_e, z1, z3, gO49 g1, gR49_24 g1, oc_s, gK474 g1 (show 181 < 968 by omega), r1, lt9_e, bdE le, bdE mo, gK474 g1 (show 183 < 968 by omega), r3, bdE k4, ↓i10, ip]
theorem qr_span {n l len : Nat} {cs : Nat → Nat} {bk : List (Nat × Nat)} {y : Nat → Nat} {t : Nat} {pl rf : Int32} {ru : Nat → Int32} {pk ik : Nat} {jk : Nat → Nat} {ct : Nat → St} {B : Nat} {m : Mm} {x s a w v b : Int32} (p : IP n l len cs bk pk ik jk ct B) (hB : B + 200 < 1000000) (g : G m) (h : IR n l len cs bk y t pl rf ru pk ik jk ct m) : RA (F_X12_span 49 x s a w v b m) (if mbr n b then (if ((¬ s < 1 ∧ ¬ 10 < s) ∧ (¬ a < 1 ∧ ¬ 96 < a) ∧ (¬ w < 0 ∧ ¬ 16 < w) ∧ (¬ v < 0 ∧ ¬ 2 < v)) then .inl (spA (spI (spT cs len n l w (ix a) x (ct 0)) (ix b) (ix s)) v) else .inr 1) else .inr 0 : Int32 ⊕ Nat) hx_L_span 0 m := by
  have g0 : G (wI m 49 0 0) := G_wI g
  have h' := IR_0 0 h
  have rc := IR_RC p g0 h'
  have rr := IR_now h'
  have wf : WF n B (ct 0) := p.2.2.2.2.2.2.2 0 (Val_0 _ _ _)
  have e0 := w0_0 m
  have hn := p.1
  have im := r_isMem (a := b) g0 rc.2.1
  have b0 := bad_f (c := 1) (r := 0) g0 e0
  have b1 : F_X12_bad 49 1 1 0 (wI m 49 0 0) = some (1, bdM m 0 1) := bad_t (k := 0) g (by omega) (by decide)
  have b2 := bad_f (c := 2) (r := 1) g0 e0
  have b3 : F_X12_bad 49 1 2 1 (wI m 49 0 0) = some (1, bdM m 1 2) := bad_t (k := 1) g (by omega) (by decide)
  have w0 := inr s 1 10 (wI m 49 0 0)
  have w1 := r_isStorm a w (wI m 49 0 0)
  have w3 := inr v 0 2 (wI m 49 0 0)
  by_cases hm : mbr n b
  · rw [if_pos hm]
    rw [decide_eq_true hm, b2i_t] at im
    obtain ⟨k, hk, rfl⟩ := mbr_i hn hm
    rw [ix_ni (show k < 2147483648 by omega)]
    by_cases h0 : ¬ s < 1 ∧ ¬ 10 < s
    · rw [decide_eq_true h0, b2i_t] at w0
      by_cases h1 : (¬ a < 1 ∧ ¬ 96 < a) ∧ (¬ w < 0 ∧ ¬ 16 < w)
      · rw [decide_eq_true h1, b2i_t] at w1
        by_cases h4 : ¬ v < 0 ∧ ¬ 2 < v
        · rw [decide_eq_true h4, b2i_t] at w3
          rw [if_pos ⟨h0, h1.1, h1.2, h4⟩]
          obtain ⟨t', ht1, ht, rfl⟩ := in_96 h1.1
          obtain ⟨s', hs1, hs, rfl⟩ := in_10 h0
          rw [ix_ni (show t' < 2147483648 by omega), ix_ni (show s' < 2147483648 by omega)]
          obtain ⟨m1, x1, x2⟩ := r_spanL (K := fun v5 v7 v8 v9 m => if v5 = 0 then some (v7, m) else if v5 = 1 then some (v8, m) else some (v9, m)) (x := x) (w := w) (v := v) (k := k) wf ht hs hB p.2.1 (by omega) s' 0 NF (2147483647, 0, 0) (wI m 49 0 0) (by omega) (by unfold NF; omega) rc rr (fun _ => rfl) (fun z => absurd rfl z)
          refine ⟨m1, ?_, by rw [x2.2 0 (by omega)]; exact e0, Qr_trans (Qr_0 m 0) (Qr_gw x2)⟩
          unfold F_X12_span
          simp only [gO49 g, gO49 g0, gd_t, lt9_e, jn_e, bdE im, bdE w0, bdE w1, bdE w3, ↓i10, ↓i00, if_true, bdE b0, bdE b2]
          have x1' : L_X12_span_85 (fun v5 v7 v8 v9 m => if v5 = 0 then some (v7, m) else if v5 = 1 then some (v8, m) else some (v9, m)) NF 49 x (ni s') (ni t') w v (ni k) (-1) 0 0 0 (wI m 49 0 0) = _ := x1
          rw [x1']
          have zl : ∀ y, loR s' y = y := fun y => if_neg (by omega)
          rw [zl]
          unfold spA spI
          by_cases z0 : v = 0
          · rw [if_pos z0, if_pos z0]
          · rw [if_neg z0, if_neg z0]
            by_cases z1 : v = 1
            · rw [if_pos z1, if_pos z1]
            · rw [if_neg z1, if_neg z1]
        · rw [decide_eq_false h4, b2i_f] at w3
          rw [if_neg (fun z => h4 z.2.2.2)]
          refine ⟨2, rfl, ?_⟩
          unfold F_X12_span
          simp only [gO49 g, gO49 g0, gd_t, lt9_e, jn_e, bdE im, bdE w0, bdE w1, bdE w3, ↓i10, ↓i00, if_true, bdE b0, bdE b3]
      · rw [decide_eq_false h1, b2i_f] at w1
        rw [if_neg (fun z => h1 ⟨z.2.1, z.2.2.1⟩)]
        refine ⟨2, rfl, ?_⟩
        unfold F_X12_span
        simp only [gO49 g, gO49 g0, gd_t, lt9_e, jn_e, bdE im, bdE w0, bdE w1, ↓i10, ↓i00, if_true, bdE b0, bdE b3]
    · rw [decide_eq_false h0, b2i_f] at w0
      rw [if_neg (fun z => h0 z.1)]
      refine ⟨2, rfl, ?_⟩
      unfold F_X12_span
      simp only [gO49 g, gO49 g0, gd_t, lt9_e, jn_e, bdE im, bdE w0, ↓i10, ↓i00, if_true, bdE b0, bdE b3]
  · rw [if_neg hm]
    rw [decide_eq_false hm, b2i_f] at im
    refine ⟨1, rfl, ?_⟩
    unfold F_X12_span
    simp only [gO49 g, gO49 g0, gd_t, lt9_e, jn_e, bdE im, ↓i10, ↓i00, if_true, bdE b1]
