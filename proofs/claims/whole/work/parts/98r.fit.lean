/-! L2: fits, look, behind. -/
def sfP (cs : Nat → Nat) (len n : Nat) (bk : List (Nat × Nat)) (σ : St) : Sf := siftP (wp cs len n σ) (nmB bk) (inB bk) n
theorem Qf_AS {m m' : Mm} (f : Fm AS m m') (h : ∀ j, j ≠ 3 → j ≠ 4 → rI m' 12 j = rI m 12 j) : Qf m m' := ⟨Fm_mono (fun b z => by unfold AS at z; unfold SQ; omega) f, fun j hj => h j (by omega) (by omega)⟩
theorem IR_RB {n l len : Nat} {cs : Nat → Nat} {bk : List (Nat × Nat)} {y : Nat → Nat} {t : Nat} {pl rf : Int32} {ru : Nat → Int32} {pk ik : Nat} {jk : Nat → Nat} {ct : Nat → St} {B : Nat} {m : Mm} (p : IP n l len cs bk pk ik jk ct B) (g : G m) (h : IR n l len cs bk y t pl rf ru pk ik jk ct m) : RB n len l cs bk (ct 0) m := ⟨IR_RC p g h, IR_now h, h.2.2.1.1, h.2.2.1.2⟩
theorem qc_fits {n l len : Nat} {cs : Nat → Nat} {bk : List (Nat × Nat)} {y : Nat → Nat} {t : Nat} {pl rf : Int32} {ru : Nat → Int32} {pk ik : Nat} {jk : Nat → Nat} {ct : Nat → St} {B : Nat} {m : Mm} {w : Int32} (p : IP n l len cs bk pk ik jk ct B) (h : IC n l len cs bk y t pl rf ru pk ik jk ct m) (hN : mN m + 1 < K9) : CA (F_X11_fits 0 w m) (if ¬ w < 0 ∧ ¬ 1 < w then .inl (if w = 0 then ni (sfP cs len n bk (ct 0)).1 else (sfP cs len n bk (ct 0)).2.1) else .inr 1 : Int32 ⊕ Nat) m := by
  obtain ⟨q, ha, wf, g⟩ := IC_ctx p h
  have wt' := wth w 0 1 m
  by_cases hw : ¬ w < 0 ∧ ¬ 1 < w
  · rw [if_pos hw]
    rw [decide_eq_true hw, b2i_t] at wt'
    have k2 : F_X11_need 0 1 m = some (.inl (), m) := c_need1
    obtain ⟨m1, x1, x2, x3, x4⟩ := c_sift (.inl rfl) q (bel_st (by rw [ha]; exact wf)) h.2.2.2.2.1.2.1 h.2.2.2.2.1.2.2
    rw [ha] at x2
    have g1 := G_fr x3 g
    refine ⟨m1, ?_, Qf_AS x3 x4⟩
    unfold F_X11_fits
    by_cases z0 : w = 0
    · have z0' := eq_true z0
      simp only [gO0 g, gd_t, bdE wt', bxL k2, gR0_4 g, gR0_5 g, gR0_6 g, oc_s, gO12 g, bdE x1, z0', if_true, gO0 g1, gR0_4 g1, gO12 g1, x2.1]
      rfl
    · have z0' := eq_false z0
      simp only [gO0 g, gd_t, bdE wt', bxL k2, gR0_4 g, gR0_5 g, gR0_6 g, oc_s, gO12 g, bdE x1, z0', if_false, gO0 g1, gR0_4 g1, gO12 g1, x2.2.1]
      rfl
  · rw [if_neg hw]
    rw [decide_eq_false hw, b2i_f] at wt'
    have k2 := need_f g hN
    rw [b2i_f] at k2
    refine ⟨by omega, 6, by omega, ?_⟩
    unfold F_X11_fits
    simp only [gO0 g, gd_t, bdE wt', bxR k2]
theorem qr_fits {n l len : Nat} {cs : Nat → Nat} {bk : List (Nat × Nat)} {y : Nat → Nat} {t : Nat} {pl rf : Int32} {ru : Nat → Int32} {pk ik : Nat} {jk : Nat → Nat} {ct : Nat → St} {B : Nat} {m : Mm} {w : Int32} (p : IP n l len cs bk pk ik jk ct B) (g : G m) (h : IR n l len cs bk y t pl rf ru pk ik jk ct m) : RA (F_X12_fits 49 w m) (if ¬ w < 0 ∧ ¬ 1 < w then .inl (if w = 0 then ni (sfP cs len n bk (ct 0)).1 else (sfP cs len n bk (ct 0)).2.1) else .inr 1 : Int32 ⊕ Nat) hx_L_fits 0 m := by
  have g0 : G (wI m 49 0 0) := G_wI g
  have h' := IR_0 0 h
  have rb := IR_RB p g0 h'
  have wf : WF n B (ct 0) := p.2.2.2.2.2.2.2 0 (Val_0 _ _ _)
  have e0 := w0_0 m
  have b0 := bad_f (c := 1) (r := 1) g0 e0
  have b1 : F_X12_bad 49 1 1 1 (wI m 49 0 0) = some (1, bdM m 1 1) := bad_t (k := 1) g (by omega) (by decide)
  have wt' := inr w 0 1 (wI m 49 0 0)
  have hp := pw_n n p.1
  by_cases hw : ¬ w < 0 ∧ ¬ 1 < w
  · rw [if_pos hw]
    rw [decide_eq_true hw, b2i_t] at wt'
    obtain ⟨m1, x1, x2⟩ := r_fitsL (K := fun v1 v2 v3 m => if v1 = 0 then some (v2, m) else some (v3, m)) (v1 := w) wf p.2.2.2.1 (2 ^ n) 0 NF (0, -1, fun _ => 0) (wI m 49 0 0) (by omega) (by unfold NF; omega) rb (by omega)
    refine ⟨m1, ?_, by rw [(x2.1 49 (by unfold AR; omega)).1]; exact e0, Qr_trans (Qr_0 m 0) (Qr_AR x2)⟩
    unfold F_X12_fits
    simp only [gO49 g, gO49 g0, gd_t, lt9_e, jn_e, bdE wt', ↓i10, ↓i00, if_true, bdE b0]
    have x1' := x1
    rw [show ni ((0, -1, fun _ => 0) : Sf).1 = 0 from rfl, show ((0, -1, fun _ => 0) : Sf).2.1 = -1 from rfl] at x1'
    rw [x1']
    unfold sfP siftP
    by_cases z0 : w = 0
    · rw [if_pos z0, if_pos z0]
    · rw [if_neg z0, if_neg z0]
  · rw [if_neg hw]
    rw [decide_eq_false hw, b2i_f] at wt'
    refine ⟨1, rfl, ?_⟩
    unfold F_X12_fits
    simp only [gO49 g, gO49 g0, gd_t, lt9_e, jn_e, bdE wt', ↓i10, ↓i00, if_true, bdE b1]
def lkP (cs : Nat → Nat) (len n : Nat) (bk : List (Nat × Nat)) (σ : St) : Option Nat := bestP (nmB bk) (lwP (sfP cs len n bk σ)) n
theorem best_6 {nm : Int32} {lw : Nat → Nat} {n : Nat} (hn : n ≤ 6) : ∀ j, bestP nm lw n = some j → j < 6 := by
  have z := itn_inv (f := bF nm lw) (P := fun i o => ∀ j, o = some j → j < i) n 0 none (fun j hj => by cases hj) (fun k o h1 h2 h3 j hj => by
    unfold bF at hj
    split at hj
    · have := h3 j hj
      omega
    · cases o with
      | none =>
        cases hj
        omega
      | some i =>
        have := h3 i rfl
        simp only at hj
        split at hj
        · cases hj
          omega
        · cases hj
          omega)
  intro j hj
  have := z j hj
  omega
theorem qc_look {n l len : Nat} {cs : Nat → Nat} {bk : List (Nat × Nat)} {y : Nat → Nat} {t : Nat} {pl rf : Int32} {ru : Nat → Int32} {pk ik : Nat} {jk : Nat → Nat} {ct : Nat → St} {B : Nat} {m : Mm} {w : Int32} (p : IP n l len cs bk pk ik jk ct B) (h : IC n l len cs bk y t pl rf ru pk ik jk ct m) (hN : mN m + 1 < K9) : CA (F_X11_look 0 w m) (if ¬ w < 0 ∧ ¬ 1 < w then .inl (if w = 0 then oi (lkP cs len n bk (ct 0)) else ow (lwP (sfP cs len n bk (ct 0))) (lkP cs len n bk (ct 0))) else .inr 1 : Int32 ⊕ Nat) m := by
  obtain ⟨q, ha, wf, g⟩ := IC_ctx p h
  have wt' := wth w 0 1 m
  have hn := p.1
  by_cases hw : ¬ w < 0 ∧ ¬ 1 < w
  · rw [if_pos hw]
    rw [decide_eq_true hw, b2i_t] at wt'
    have k2 : F_X11_need 0 1 m = some (.inl (), m) := c_need1
    obtain ⟨m1, x1, x2, x3, x4⟩ := c_sift (.inl rfl) q (bel_st (by rw [ha]; exact wf)) h.2.2.2.2.1.2.1 h.2.2.2.2.1.2.2
    rw [ha] at x2
    have g1 := G_fr x3 g
    have sc : Sc (sfP cs len n bk (ct 0)) := sift_Sc hn
    have e12 : rI m1 12 1 = nmB bk := by rw [x4 1 (by omega) (by omega)]; exact h.2.2.2.2.1.2.1
    have e3 : rI m1 3 0 = ni n := by rw [(x3.1 3 (by unfold AS; omega)).1]; exact h.2.2.1.1
    have k3 := c_best (q := sfP cs len n bk (ct 0)) (nm := nmB bk) hn g1 x2 sc e12
    have k3' : F_X0_bestToAsk 12 (ni n) m1 = some (oi (lkP cs len n bk (ct 0)), m1) := k3
    refine ⟨m1, ?_, Qf_AS x3 x4⟩
    unfold F_X11_look
    by_cases z0 : w = 0
    · have z0' := eq_true z0
      simp only [gO0 g, gd_t, bdE wt', bxL k2, gR0_4 g, gR0_5 g, gR0_6 g, oc_s, gO12 g, bdE x1, gO0 g1, gR0_4 g1, gR0_1 g1, gO3 g1, gO12 g1, e3, bdE k3', lt9_e, z0', if_true]
    · have z0' := eq_false z0
      cases el : lkP cs len n bk (ct 0) with
      | none =>
        rw [el] at k3'
        have eo : (oi none = (-1 : Int32)) = True := eq_true rfl
        simp only [gO0 g, gd_t, bdE wt', bxL k2, gR0_4 g, gR0_5 g, gR0_6 g, oc_s, gO12 g, bdE x1, gO0 g1, gR0_4 g1, gR0_1 g1, gO3 g1, gO12 g1, e3, bdE k3', lt9_e, z0', if_false, eo, if_true]
        rfl
      | some j =>
        rw [el] at k3'
        have j6 := best_6 hn j el
        have eo : (oi (some j) = (-1 : Int32)) = False := eq_false (fun z => (ni_ne1 (n := j) (by omega)).mp z)
        have k4 := c_left g1 x2 sc j6
        have k4' : F_X0_leftAtWorst 12 (oi (some j)) m1 = some (ni (lwP (sfP cs len n bk (ct 0)) j), m1) := k4
        simp only [gO0 g, gd_t, bdE wt', bxL k2, gR0_4 g, gR0_5 g, gR0_6 g, oc_s, gO12 g, bdE x1, gO0 g1, gR0_4 g1, gR0_1 g1, gO3 g1, gO12 g1, e3, bdE k3', lt9_e, z0', if_false, eo, bdE k4']
        rfl
  · rw [if_neg hw]
    rw [decide_eq_false hw, b2i_f] at wt'
    have k2 := need_f g hN
    rw [b2i_f] at k2
    refine ⟨by omega, 6, by omega, ?_⟩
    unfold F_X11_look
    simp only [gO0 g, gd_t, bdE wt', bxR k2]
theorem qr_look {n l len : Nat} {cs : Nat → Nat} {bk : List (Nat × Nat)} {y : Nat → Nat} {t : Nat} {pl rf : Int32} {ru : Nat → Int32} {pk ik : Nat} {jk : Nat → Nat} {ct : Nat → St} {B : Nat} {m : Mm} {w : Int32} (p : IP n l len cs bk pk ik jk ct B) (g : G m) (h : IR n l len cs bk y t pl rf ru pk ik jk ct m) : RA (F_X12_look 49 w m) (if ¬ w < 0 ∧ ¬ 1 < w then .inl (if w = 0 then oi (lkP cs len n bk (ct 0)) else ow (lwP (sfP cs len n bk (ct 0))) (lkP cs len n bk (ct 0))) else .inr 1 : Int32 ⊕ Nat) hx_L_look 0 m := by
  have g0 : G (wI m 49 0 0) := G_wI g
  have h' := IR_0 0 h
  have rb := IR_RB p g0 h'
  have wf : WF n B (ct 0) := p.2.2.2.2.2.2.2 0 (Val_0 _ _ _)
  have e0 := w0_0 m
  have b0 := bad_f (c := 1) (r := 1) g0 e0
  have b1 : F_X12_bad 49 1 1 1 (wI m 49 0 0) = some (1, bdM m 1 1) := bad_t (k := 1) g (by omega) (by decide)
  have wt' := inr w 0 1 (wI m 49 0 0)
  by_cases hw : ¬ w < 0 ∧ ¬ 1 < w
  · rw [if_pos hw]
    rw [decide_eq_true hw, b2i_t] at wt'
    obtain ⟨m1, x1, x2⟩ := r_lookL (K := fun v1 v2 v3 m => if v1 = 0 then some (v2, m) else some (v3, m)) (v1 := w) (lw := lwP (sfP cs len n bk (ct 0))) wf p.2.2.2.1 (fun k => rfl) n 0 NF none (wI m 49 0 0) (by omega) (by have := p.1; unfold NF; omega) rb (fun j hj => by cases hj)
    refine ⟨m1, ?_, by rw [(x2.1 49 (by unfold AR; omega)).1]; exact e0, Qr_trans (Qr_0 m 0) (Qr_AR x2)⟩
    unfold F_X12_look
    simp only [gO49 g, gO49 g0, gd_t, lt9_e, jn_e, bdE wt', ↓i10, ↓i00, if_true, bdE b0]
    have x1' : L_X12_look_37 (fun v1 v2 v3 m => if v1 = 0 then some (v2, m) else some (v3, m)) NF 49 w (-1) (-1) 0 (wI m 49 0 0) = _ := x1
    rw [x1']
    unfold lkP bestP
    by_cases z0 : w = 0
    · rw [if_pos z0, if_pos z0]
    · rw [if_neg z0, if_neg z0]
  · rw [if_neg hw]
    rw [decide_eq_false hw, b2i_f] at wt'
    refine ⟨1, rfl, ?_⟩
    unfold F_X12_look
    simp only [gO49 g, gO49 g0, gd_t, lt9_e, jn_e, bdE wt', ↓i10, ↓i00, if_true, bdE b1]
/-! behind -/
def bhF (σ : St) (i : Nat) (o : Option Nat) : Option Nat := if stands σ i = false then o else match o with
  | none => some i
  | some j => if cb (gI σ 2 i) 32 < cb (gI σ 2 j) 32 then some i else some j
def bhP (σ : St) (n : Nat) : Option Nat := itn (bhF σ) n 0 none
def bhW (σ : St) (z : Int32) (o : Option Nat) : Int32 := match o with
  | none => z
  | some j => bcI (gI σ 2 j)
theorem cb_30 {n B i : Nat} {σ : St} (wf : WF n B σ) (hi : i < 6) : cb (gI σ 2 i) 32 ≤ 30 := by
  rw [cb_tail (show 30 ≤ 32 by omega) (bel_mono (WF_30 wf) (wf.2.1.2.1 i hi))]
  exact cb_le _ _
theorem bh_inv {n B : Nat} {σ : St} (wf : WF n B σ) : ∀ N, N ≤ 6 → ∀ j, itn (bhF σ) N 0 none = some j → j < N ∧ stands σ j = true := by
  intro N hN
  have z := itn_inv (f := bhF σ) (P := fun i o => ∀ j, o = some j → j < i ∧ stands σ j = true) N 0 none (fun j hj => by cases hj) (fun k o h1 h2 h3 j hj => by
    unfold bhF at hj
    split at hj
    · have := h3 j hj
      exact ⟨by omega, this.2⟩
    · next hs =>
      have hs' : stands σ k = true := by
        cases q : stands σ k with
        | true => rfl
        | false => exact absurd q hs
      cases o with
      | none =>
        cases hj
        exact ⟨by omega, hs'⟩
      | some i =>
        have := h3 i rfl
        simp only at hj
        split at hj
        · cases hj
          exact ⟨by omega, hs'⟩
        · cases hj
          exact ⟨by omega, this.2⟩)
  intro j hj
  have := z j hj
  exact ⟨by omega, this.2⟩
theorem fb_bh {n B : Nat} {σ : St} (wf : WF n B σ) : ∀ (d i : Nat) (o : Option Nat), i + d ≤ 6 → (∀ j, o = some j → j < 6) → itn (fbF σ) d i (oi o, bhW σ 31 o) = (oi (itn (bhF σ) d i o), bhW σ 31 (itn (bhF σ) d i o)) := by
  intro d
  induction d with
  | zero =>
    intro i o _ _
    rfl
  | succ d ih =>
    intro i o hi ho
    rw [show itn (fbF σ) (d + 1) i (oi o, bhW σ 31 o) = itn (fbF σ) d (i + 1) (fbF σ i (oi o, bhW σ 31 o)) from rfl, show itn (bhF σ) (d + 1) i o = itn (bhF σ) d (i + 1) (bhF σ i o) from rfl]
    have c1 := cb_30 wf (show i < 6 by omega)
    have e : fbF σ i (oi o, bhW σ 31 o) = (oi (bhF σ i o), bhW σ 31 (bhF σ i o)) := by
      unfold fbF bhF
      by_cases hs : stands σ i = false
      · rw [if_pos hs, if_pos hs]
      · rw [if_neg hs, if_neg hs]
        cases o with
        | none =>
          show (if (31 : Int32) ≤ bcI (gI σ 2 i) then _ else _) = _
          rw [if_neg]
          · rfl
          · rw [bc_cb, show (31 : Int32) = ni 31 from rfl, ni_le (by omega) (by omega)]
            omega
        | some j =>
          have c2 := cb_30 wf (ho j rfl)
          show (if bcI (gI σ 2 j) ≤ bcI (gI σ 2 i) then _ else _) = _
          by_cases q : cb (gI σ 2 i) 32 < cb (gI σ 2 j) 32
          · rw [if_neg]
            · show _ = (oi (if _ then _ else _), bhW σ 31 (if _ then _ else _))
              rw [if_pos q]
              rfl
            · rw [bc_cb, bc_cb, ni_le (by omega) (by omega)]
              omega
          · rw [if_pos]
            · show _ = (oi (if _ then _ else _), bhW σ 31 (if _ then _ else _))
              rw [if_neg q]
            · rw [bc_cb, bc_cb, ni_le (by omega) (by omega)]
              omega
    rw [e]
    refine ih (i + 1) _ (by omega) (fun j hj => ?_)
    unfold bhF at hj
    split at hj
    · exact ho j hj
    · cases o with
      | none =>
        cases hj
        omega
      | some k =>
        simp only at hj
        split at hj
        · cases hj
          omega
        · exact ho j hj
theorem furthest_b {n B : Nat} {σ : St} (wf : WF n B σ) : furthest σ = oi (bhP σ n) := by
  unfold furthest
  have z := fb_bh wf 6 0 none (by omega) (fun j hj => by cases hj)
  have z' : itn (fbF σ) 6 0 (-1, 31) = (oi (itn (bhF σ) 6 0 none), bhW σ 31 (itn (bhF σ) 6 0 none)) := z
  rw [z']
  show oi (itn (bhF σ) 6 0 none) = _
  unfold bhP
  rw [itn_tail (WF_6 wf) (fun k h1 h2 => ?_)]
  unfold bhF
  rw [if_pos]
  cases q : stands σ k with
  | false => rfl
  | true => have := st_n wf q; omega
theorem stands_m1 {m : Mm} {s : Nat} (c : CSh m s) : F_X7_stands s (-1) m = some (0, m) := by
  unfold F_X7_stands
  have e : has6 (standing (absC m s)) (-1) = false := by
    unfold has6
    rw [if_pos (.inl (by decide))]
  simp only [CSh_ok c, gd_t, c_standing c, bd_s, hasC, e, b2i_f]
  rfl
theorem qc_behind {n l len : Nat} {cs : Nat → Nat} {bk : List (Nat × Nat)} {y : Nat → Nat} {t : Nat} {pl rf : Int32} {ru : Nat → Int32} {pk ik : Nat} {jk : Nat → Nat} {ct : Nat → St} {B : Nat} {m : Mm} {w : Int32} (p : IP n l len cs bk pk ik jk ct B) (h : IC n l len cs bk y t pl rf ru pk ik jk ct m) (hN : mN m + 1 < K9) : CA (F_X11_behind 0 w m) (if ¬ w < 0 ∧ ¬ 1 < w then .inl (if w = 0 then oi (bhP (ct 0) n) else bhW (ct 0) (-1) (bhP (ct 0) n)) else .inr 1 : Int32 ⊕ Nat) m := by
  obtain ⟨q, ha, wf, g⟩ := IC_ctx p h
  have c16 := G_16 g
  have wt' := wth w 0 1 m
  have hn := p.1
  by_cases hw : ¬ w < 0 ∧ ¬ 1 < w
  · rw [if_pos hw]
    rw [decide_eq_true hw, b2i_t] at wt'
    have k2 : F_X11_need 0 1 m = some (.inl (), m) := c_need1
    have k3 := c_furthest c16
    rw [ha, furthest_b wf] at k3
    refine ⟨m, ?_, Qf_refl m⟩
    unfold F_X11_behind
    by_cases z0 : w = 0
    · have z0' := eq_true z0
      simp only [gO0 g, gd_t, bdE wt', bxL k2, gR0_6 g, oc_s, gO16 g, bdE k3, lt9_e, z0', if_true]
    · have z0' := eq_false z0
      cases el : bhP (ct 0) n with
      | none =>
        rw [el] at k3
        have k4 : F_X7_stands 16 (oi none) m = some (0, m) := stands_m1 c16
        simp only [gO0 g, gd_t, bdE wt', bxL k2, gR0_6 g, oc_s, gO16 g, bdE k3, lt9_e, z0', if_false, bdE k4, ↓i00, if_true]
        rfl
      | some j =>
        rw [el] at k3
        have bj := bh_inv wf n hn j el
        have j6 : j < 6 := by omega
        have k4 := c_stands (i := j) c16 j6
        rw [ha, bj.2, b2i_t] at k4
        have k4' : F_X7_stands 16 (oi (some j)) m = some (1, m) := k4
        have o2 : rI m (16 + 2) j = gI (ct 0) 2 j := by rw [rI_o2 16 m j6, ha]
        have oA : okA m 100 (16 + 2) (oi (some j)) = true := CSh_o2 c16 j6
        have oX : ix (oi (some j)) = j := ix_ni (by omega)
        simp only [gO0 g, gd_t, bdE wt', bxL k2, gR0_6 g, oc_s, gO16 g, bdE k3, lt9_e, z0', if_false, bdE k4', ↓i10, CSh_got c16, oA, oX, o2, c_bc, bd_s]
        rfl
  · rw [if_neg hw]
    rw [decide_eq_false hw, b2i_f] at wt'
    have k2 := need_f g hN
    rw [b2i_f] at k2
    refine ⟨by omega, 6, by omega, ?_⟩
    unfold F_X11_behind
    simp only [gO0 g, gd_t, bdE wt', bxR k2]
theorem st_tb {n B i : Nat} {σ : St} (wf : WF n B σ) : stands σ i = tb (gI σ 0 2) i := by
  unfold stands standing
  rw [tb_and]
  cases et : tb (gI σ 0 2) i with
  | false => simp
  | true => rw [wf.1.2.2.2.2.2.2.2.1 i et]; rfl
theorem r_behL {K : Int32 → Int32 → Int32 → Mm → Option (Int32 × Mm)} {n B : Nat} {w : Int32} {σ : St} {m : Mm} (g : G m) (h53 : rI m 53 0 = ni n) (rr : RR (rI m 473) σ) (wf : WF n B σ) : ∀ (d i fuel : Nat) (o : Option Nat), i + d = n → d < fuel → (∀ j, o = some j → j < 6) → L_X12_behind_37 K fuel 49 w (oi o) (bhW σ (-1) o) (ni i) m = K w (oi (itn (bhF σ) d i o)) (bhW σ (-1) (itn (bhF σ) d i o)) m := by
  have hn := WF_6 wf
  have r183 : rI m 473 (ix (183 : Int32)) = gI σ 0 2 := RR183 rr
  intro d
  induction d with
  | zero =>
    intro i fuel o hd hf ho
    obtain ⟨fuel, rfl⟩ : ∃ z, fuel = z + 1 := ⟨fuel - 1, by omega⟩
    have e : (ni n ≤ ni i) = True := eq_true (by rw [ni_le (by omega) (by omega)]; omega)
    rw [L_X12_behind_37]
    simp only [gO49 g, gd_t, gR49_12 g, oc_s, gK53 g (show 0 < 3 by omega), show ix (0 : Int32) = 0 from by decide, h53, e, if_true]
    rfl
  | succ d ih =>
    intro i fuel o hd hf ho
    obtain ⟨fuel, rfl⟩ : ∃ z, fuel = z + 1 := ⟨fuel - 1, by omega⟩
    have i6 : i < 6 := by omega
    have e : (ni n ≤ ni i) = False := eq_false (fun z => by rw [ni_le (by omega) (by omega)] at z; omega)
    have s12 : (12 : Int32) + ni i = ni (12 + i) := lni_add 12 i
    have kg := RRg rr i6
    have ob := r_onesB (x := gI σ 2 i) (bel_mono (WF_30 wf) (wf.2.1.2.1 i i6)) m
    have k6 := hasR (x := gI σ 0 2) (i := i) (by omega) m
    rw [← st_tb wf] at k6
    have ip : ni i + 1 = ni (i + 1) := ni_add i 1
    rw [show itn (bhF σ) (d + 1) i o = itn (bhF σ) d (i + 1) (bhF σ i o) from rfl]
    have ho' : ∀ j, bhF σ i o = some j → j < 6 := fun j hj => by
      unfold bhF at hj
      split at hj
      · exact ho j hj
      · cases o with
        | none =>
          cases hj
          omega
        | some k =>
          simp only at hj
          split at hj
          · cases hj
            omega
          · exact ho j hj
    rw [← ih (i + 1) fuel (bhF σ i o) (by omega) (by omega) ho', L_X12_behind_37]
    cases es : stands σ i with
    | false =>
      rw [es, b2i_f] at k6
      have hF : bhF σ i o = o := by unfold bhF; rw [if_pos es]
      rw [hF]
      simp only [gO49 g, gd_t, gR49_12 g, gR49_23 g, oc_s, gK53 g (show 0 < 3 by omega), show ix (0 : Int32) = 0 from by decide, h53, e, if_false, s12, gA473 g (show 12 + i < 968 by omega), ix_ni (show 12 + i < 2147483648 by omega), kg, bdE ob, lt9_e, gK473 g (show 183 < 968 by omega), r183, bdE k6, jn_e, ↓i00, if_true, ip]
    | true =>
      rw [es, b2i_t] at k6
      cases o with
      | none =>
        have hF : bhF σ i none = some i := by unfold bhF; rw [if_neg (by rw [es]; decide)]
        rw [hF]
        have eo : (oi none = (-1 : Int32)) = True := eq_true rfl
        simp only [gO49 g, gd_t, gR49_12 g, gR49_23 g, oc_s, gK53 g (show 0 < 3 by omega), show ix (0 : Int32) = 0 from by decide, h53, e, if_false, s12, gA473 g (show 12 + i < 968 by omega), ix_ni (show 12 + i < 2147483648 by omega), kg, bdE ob, lt9_e, gK473 g (show 183 < 968 by omega), r183, bdE k6, jn_e, ↓i10, ip, eo, if_true]
        rfl
      | some j =>
        have c1 := cb_30 wf i6
        have c2 := cb_30 wf (ho j rfl)
        have j6 := ho j rfl
        have eo : (oi (some j) = (-1 : Int32)) = False := eq_false (fun z => (ni_ne1 (n := j) (by omega)).mp z)
        by_cases q : cb (gI σ 2 i) 32 < cb (gI σ 2 j) 32
        · have hF : bhF σ i (some j) = some i := by
            unfold bhF
            rw [if_neg (by rw [es]; decide)]
            show (if _ then _ else _) = _
            rw [if_pos q]
          have q' : (bcI (gI σ 2 i) < bhW σ (-1) (some j)) = True := eq_true (by
            show bcI (gI σ 2 i) < bcI (gI σ 2 j)
            rw [bc_cb, bc_cb, ni_lt (by omega) (by omega)]
            exact q)
          rw [hF]
          simp only [gO49 g, gd_t, gR49_12 g, gR49_23 g, oc_s, gK53 g (show 0 < 3 by omega), show ix (0 : Int32) = 0 from by decide, h53, e, if_false, s12, gA473 g (show 12 + i < 968 by omega), ix_ni (show 12 + i < 2147483648 by omega), kg, bdE ob, lt9_e, gK473 g (show 183 < 968 by omega), r183, bdE k6, jn_e, ↓i10, ip, eo, q', if_true]
          rfl
        · have hF : bhF σ i (some j) = some j := by
            unfold bhF
            rw [if_neg (by rw [es]; decide)]
            show (if _ then _ else _) = _
            rw [if_neg q]
          have q' : (bcI (gI σ 2 i) < bhW σ (-1) (some j)) = False := eq_false (by
            show ¬ bcI (gI σ 2 i) < bcI (gI σ 2 j)
            rw [bc_cb, bc_cb, ni_lt (by omega) (by omega)]
            exact q)
          rw [hF]
          simp only [gO49 g, gd_t, gR49_12 g, gR49_23 g, oc_s, gK53 g (show 0 < 3 by omega), show ix (0 : Int32) = 0 from by decide, h53, e, if_false, s12, gA473 g (show 12 + i < 968 by omega), ix_ni (show 12 + i < 2147483648 by omega), kg, bdE ob, lt9_e, gK473 g (show 183 < 968 by omega), r183, bdE k6, jn_e, ↓i10, ip, eo, q']
theorem qr_behind {n l len : Nat} {cs : Nat → Nat} {bk : List (Nat × Nat)} {y : Nat → Nat} {t : Nat} {pl rf : Int32} {ru : Nat → Int32} {pk ik : Nat} {jk : Nat → Nat} {ct : Nat → St} {B : Nat} {m : Mm} {w : Int32} (p : IP n l len cs bk pk ik jk ct B) (g : G m) (h : IR n l len cs bk y t pl rf ru pk ik jk ct m) : RA (F_X12_behind 49 w m) (if ¬ w < 0 ∧ ¬ 1 < w then .inl (if w = 0 then oi (bhP (ct 0) n) else bhW (ct 0) (-1) (bhP (ct 0) n)) else .inr 1 : Int32 ⊕ Nat) hx_L_behind 0 m := by
  have g0 : G (wI m 49 0 0) := G_wI g
  have h' := IR_0 0 h
  have rc := IR_RC p g0 h'
  have rr := IR_now h'
  have wf : WF n B (ct 0) := p.2.2.2.2.2.2.2 0 (Val_0 _ _ _)
  have e0 := w0_0 m
  have b0 := bad_f (c := 1) (r := 1) g0 e0
  have b1 : F_X12_bad 49 1 1 1 (wI m 49 0 0) = some (1, bdM m 1 1) := bad_t (k := 1) g (by omega) (by decide)
  have wt' := inr w 0 1 (wI m 49 0 0)
  by_cases hw : ¬ w < 0 ∧ ¬ 1 < w
  · rw [if_pos hw]
    rw [decide_eq_true hw, b2i_t] at wt'
    have x1 := r_behL (K := fun v1 v2 v3 m => if v1 = 0 then some (v2, m) else some (v3, m)) (w := w) g0 rc.2.1 rr wf n 0 NF none (by omega) (by have := p.1; unfold NF; omega) (fun j hj => by cases hj)
    have x1' : L_X12_behind_37 (fun v1 v2 v3 m => if v1 = 0 then some (v2, m) else some (v3, m)) NF 49 w (-1) (-1) 0 (wI m 49 0 0) = _ := x1
    refine ⟨wI m 49 0 0, ?_, e0, Qr_0 m 0⟩
    unfold F_X12_behind
    simp only [gO49 g, gO49 g0, gd_t, lt9_e, jn_e, bdE wt', ↓i10, ↓i00, if_true, bdE b0]
    rw [x1']
    unfold bhP
    by_cases z0 : w = 0
    · rw [if_pos z0, if_pos z0]
    · rw [if_neg z0, if_neg z0]
  · rw [if_neg hw]
    rw [decide_eq_false hw, b2i_f] at wt'
    refine ⟨1, rfl, ?_⟩
    unfold F_X12_behind
    simp only [gO49 g, gO49 g0, gd_t, lt9_e, jn_e, bdE wt', ↓i10, ↓i00, if_true, bdE b1]
