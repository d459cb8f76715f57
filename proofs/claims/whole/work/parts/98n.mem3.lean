/-! L2: member, message. -/
def memP (cs : Nat → Nat) (len : Nat) (σ : St) (i : Nat) (w : Int32) : Int32 :=
  if w = 0 then b2i (stands σ i) else if w = 1 then gI σ 1 i else if w = 2 then bcI (gI σ 2 i) else if w = 3 then bcI (gI σ 3 i) else if w = 4 then gI σ 5 i else if w = 5 then wt cs len σ i else gI σ 7 i
theorem qc_member {n l len : Nat} {cs : Nat → Nat} {bk : List (Nat × Nat)} {y : Nat → Nat} {t : Nat} {pl rf : Int32} {ru : Nat → Int32} {pk ik : Nat} {jk : Nat → Nat} {ct : Nat → St} {B : Nat} {m : Mm} {a w : Int32} (p : IP n l len cs bk pk ik jk ct B) (h : IC n l len cs bk y t pl rf ru pk ik jk ct m) (hN : mN m + 1 < K9) : CA (F_X11_member 0 a w m) (if mbr n a then (if ¬ w < 0 ∧ ¬ 6 < w then .inl (memP cs len (ct 0) (ix a) w) else .inr 1) else .inr 0 : Int32 ⊕ Nat) m := by
  obtain ⟨q, ha, wf, g⟩ := IC_ctx p h
  have h3 := q.2.1
  have c16 := G_16 g
  have hn := p.1
  by_cases hm : mbr n a
  · rw [if_pos hm]
    obtain ⟨i, hi, rfl⟩ := mbr_i hn hm
    rw [ix_ni (by omega)]
    have k1 := needM_ok g h3 hn hi
    have wt' := wth w 0 6 m
    by_cases hw : ¬ w < 0 ∧ ¬ 6 < w
    · rw [if_pos hw]
      rw [decide_eq_true hw, b2i_t] at wt'
      have k2 : F_X11_need 0 1 m = some (.inl (), m) := c_need1
      have i6 : i < 6 := by omega
      have o1 : rI m (16 + 1) i = gI (ct 0) 1 i := by rw [rI_o1 16 m i6, ha]
      have o2 : rI m (16 + 2) i = gI (ct 0) 2 i := by rw [rI_o2 16 m i6, ha]
      have o3 : rI m (16 + 3) i = gI (ct 0) 3 i := by rw [rI_o3 16 m i6, ha]
      have o5 : rI m (16 + 5) i = gI (ct 0) 5 i := by rw [rI_o5 16 m i6, ha]
      have o7 : rI m (16 + 7) i = gI (ct 0) 7 i := by rw [rI_o7 16 m i6, ha]
      have p0 : rI m 16 0 = gI (ct 0) 0 0 := by rw [rI_o0 16 m (by omega), ha]
      have p1 : rI m 16 1 = gI (ct 0) 0 1 := by rw [rI_o0 16 m (by omega), ha]
      have ixi : ix (ni i) = i := ix_ni (by omega)
      unfold memP
      by_cases e0 : w = 0
      · subst e0
        have k3 := c_stands (i := i) c16 i6
        rw [ha] at k3
        refine ⟨m, ?_, Qf_refl m⟩
        unfold F_X11_member
        cases es : stands (ct 0) i with
        | false =>
          rw [es, b2i_f] at k3
          simp only [gO0 g, gd_t, bxL k1, bdE wt', bxL k2, if_true, gR0_6 g, oc_s, gO16 g, bdE k3, ↓i00, b2i_f]
        | true =>
          rw [es, b2i_t] at k3
          simp only [gO0 g, gd_t, bxL k1, bdE wt', bxL k2, if_true, gR0_6 g, oc_s, gO16 g, bdE k3, ↓i10, b2i_t]
      · rw [if_neg e0]
        have e0' := eq_false e0
        by_cases e1 : w = 1
        · rw [if_pos e1]
          have e1' := eq_true e1
          refine ⟨m, ?_, Qf_refl m⟩
          unfold F_X11_member
          simp only [gO0 g, gd_t, bxL k1, bdE wt', bxL k2, e0', e1', if_true, if_false, gR0_6 g, oc_s, gO16 g, CSh_age c16, CSh_o1 c16 i6, ixi, o1]
        · rw [if_neg e1]
          have e1' := eq_false e1
          by_cases e2 : w = 2
          · rw [if_pos e2]
            have e2' := eq_true e2
            refine ⟨m, ?_, Qf_refl m⟩
            unfold F_X11_member
            simp only [gO0 g, gd_t, bxL k1, bdE wt', bxL k2, e0', e1', e2', if_true, if_false, gR0_6 g, oc_s, gO16 g, CSh_got c16, CSh_o2 c16 i6, ixi, o2, c_bc, bd_s]
          · rw [if_neg e2]
            have e2' := eq_false e2
            by_cases e3 : w = 3
            · rw [if_pos e3]
              have e3' := eq_true e3
              refine ⟨m, ?_, Qf_refl m⟩
              unfold F_X11_member
              simp only [gO0 g, gd_t, bxL k1, bdE wt', bxL k2, e0', e1', e2', e3', if_true, if_false, gR0_6 g, oc_s, gO16 g, CSh_kee c16, CSh_o3 c16 i6, ixi, o3, c_bc, bd_s]
            · rw [if_neg e3]
              have e3' := eq_false e3
              by_cases e4 : w = 4
              · rw [if_pos e4]
                have e4' := eq_true e4
                refine ⟨m, ?_, Qf_refl m⟩
                unfold F_X11_member
                simp only [gO0 g, gd_t, bxL k1, bdE wt', bxL k2, e0', e1', e2', e3', e4', if_true, if_false, gR0_6 g, oc_s, gO16 g, CSh_hec c16, CSh_o5 c16 i6, ixi, o5]
              · rw [if_neg e4]
                have e4' := eq_false e4
                by_cases e5 : w = 5
                · rw [if_pos e5]
                  have e5' := eq_true e5
                  obtain ⟨qc, hqc, lc⟩ := q.2.2.2.1
                  obtain ⟨m1, x1, x2⟩ := c_weigh (e := (ni i, gI (ct 0) 1 i, gI (ct 0) 0 0, bcI (gI (ct 0) 0 1))) q.2.2.2.2 lc
                  refine ⟨m1, ?_, Qf_of x2 (fun b z => by rw [z]; unfold SQ; omega)⟩
                  unfold F_X11_member
                  simp only [gO0 g, gd_t, bxL k1, bdE wt', bxL k2, e0', e1', e2', e3', e4', e5', if_true, if_false, gR0_6 g, gR0_2 g, oc_s, gO16 g, CSh_age c16, CSh_o1 c16 i6, ixi, o1, p0, p1, c_bc, bd_s, gO4 g]
                  rw [bdE x1]
                  rfl
                · rw [if_neg e5]
                  have e5' := eq_false e5
                  refine ⟨m, ?_, Qf_refl m⟩
                  unfold F_X11_member
                  simp only [gO0 g, gd_t, bxL k1, bdE wt', bxL k2, e0', e1', e2', e3', e4', e5', if_false, gR0_6 g, oc_s, gO16 g, CSh_ent c16, CSh_o7 c16 i6, ixi, o7]
    · rw [if_neg hw]
      rw [decide_eq_false hw, b2i_f] at wt'
      have k2 := need_f g hN
      rw [b2i_f] at k2
      refine ⟨by omega, 6, by omega, ?_⟩
      unfold F_X11_member
      simp only [gO0 g, gd_t, bxL k1, bdE wt', bxR k2]
  · rw [if_neg hm]
    refine ⟨by omega, 6, by omega, ?_⟩
    unfold F_X11_member
    simp only [gO0 g, gd_t, bxR (needM_no g h3 hm hN)]
theorem mx_0 {e : Nat} (he : e ≤ 64) : mxI 0 (ni e) = ni e := by
  rw [show (0 : Int32) = ni 0 from rfl, mx_ni (by omega) (by omega)]
  by_cases h : 0 < e
  · rw [if_pos h]
  · rw [if_neg h, show e = 0 by omega]
theorem mx_m : mxI 0 (-1) = 0 := by decide
theorem qr_member {n l len : Nat} {cs : Nat → Nat} {bk : List (Nat × Nat)} {y : Nat → Nat} {t : Nat} {pl rf : Int32} {ru : Nat → Int32} {pk ik : Nat} {jk : Nat → Nat} {ct : Nat → St} {B : Nat} {m : Mm} {a w : Int32} (p : IP n l len cs bk pk ik jk ct B) (g : G m) (h : IR n l len cs bk y t pl rf ru pk ik jk ct m) : RA (F_X12_member 49 a w m) (if mbr n a then (if ¬ w < 0 ∧ ¬ 6 < w then .inl (memP cs len (ct 0) (ix a) w) else .inr 1) else .inr 0 : Int32 ⊕ Nat) hx_L_member 0 m := by
  have g0 : G (wI m 49 0 0) := G_wI g
  have rc := IR_RC p g0 (IR_0 0 h)
  have rr := IR_now (IR_0 0 h)
  have wf : WF n B (ct 0) := p.2.2.2.2.2.2.2 0 (Val_0 _ _ _)
  have e0 := w0_0 m
  have im := r_isMem (a := a) g0 rc.2.1
  have hn := p.1
  have b0 := bad_f (c := 1) (r := 0) g0 e0
  have b1 : F_X12_bad 49 1 1 0 (wI m 49 0 0) = some (1, bdM m 0 1) := bad_t (k := 0) g (by omega) (by decide)
  have b2 := bad_f (c := 2) (r := 1) g0 e0
  have b3 : F_X12_bad 49 1 2 1 (wI m 49 0 0) = some (1, bdM m 1 2) := bad_t (k := 1) g (by omega) (by decide)
  by_cases hm : mbr n a
  · rw [if_pos hm]
    rw [decide_eq_true hm, b2i_t] at im
    obtain ⟨i, hi, rfl⟩ := mbr_i hn hm
    rw [ix_ni (by omega)]
    have wt' := inr w 0 6 (wI m 49 0 0)
    by_cases hw : ¬ w < 0 ∧ ¬ 6 < w
    · rw [if_pos hw]
      rw [decide_eq_true hw, b2i_t] at wt'
      have i6 : i < 6 := by omega
      have s0 : (0 : Int32) + ni i = ni i := by rw [lni_add, Nat.zero_add]
      have s6 : (6 : Int32) + ni i = ni (6 + i) := lni_add 6 i
      have s12 : (12 : Int32) + ni i = ni (12 + i) := lni_add 12 i
      have s18 : (18 : Int32) + ni i = ni (18 + i) := lni_add 18 i
      have s30 : (30 : Int32) + ni i = ni (30 + i) := lni_add 30 i
      have i0' : ix (ni i) = i := ix_ni (by omega)
      have i6' : ix (ni (6 + i)) = 6 + i := ix_ni (by omega)
      have i12' : ix (ni (12 + i)) = 12 + i := ix_ni (by omega)
      have i18' : ix (ni (18 + i)) = 18 + i := ix_ni (by omega)
      have i30' : ix (ni (30 + i)) = 30 + i := ix_ni (by omega)
      unfold memP
      by_cases z0 : w = 0
      · subst z0
        have k3 := hasR (x := gI (ct 0) 0 2) (i := i) (by omega) (wI m 49 0 0)
        have r183 : rI (wI m 49 0 0) 473 (ix (183 : Int32)) = gI (ct 0) 0 2 := RR183 rr
        have es : stands (ct 0) i = tb (gI (ct 0) 0 2) i := by
          unfold stands standing
          rw [tb_and]
          cases et : tb (gI (ct 0) 0 2) i with
          | false => simp
          | true => rw [wf.1.2.2.2.2.2.2.2.1 i et]; rfl
        refine ⟨wI m 49 0 0, ?_, e0, Qr_0 m 0⟩
        rw [if_pos rfl, es]
        unfold F_X12_member
        cases et : tb (gI (ct 0) 0 2) i with
        | false =>
          rw [et, b2i_f] at k3
          simp only [gO49 g, gO49 g0, gd_t, lt9_e, jn_e, bdE im, ↓i10, ↓i00, if_true, bdE b0, bdE wt', bdE b2, gR49_23 g0, oc_s, gK473 g0 (show 183 < 968 by omega), r183, bdE k3, b2i_f]
        | true =>
          rw [et, b2i_t] at k3
          simp only [gO49 g, gO49 g0, gd_t, lt9_e, jn_e, bdE im, ↓i10, ↓i00, if_true, bdE b0, bdE wt', bdE b2, gR49_23 g0, oc_s, gK473 g0 (show 183 < 968 by omega), r183, bdE k3, b2i_t]
      · rw [if_neg z0]
        have z0' := eq_false z0
        by_cases z1 : w = 1
        · rw [if_pos z1]
          have z1' := eq_true z1
          refine ⟨wI m 49 0 0, ?_, e0, Qr_0 m 0⟩
          unfold F_X12_member
          simp only [gO49 g, gO49 g0, gd_t, lt9_e, jn_e, bdE im, ↓i10, ↓i00, bdE b0, bdE wt', bdE b2, gR49_23 g0, oc_s, z0', z1', if_true, if_false, s0, gA473 g0 (show i < 968 by omega), i0', RRa rr i6]
        · rw [if_neg z1]
          have z1' := eq_false z1
          by_cases z2 : w = 2
          · rw [if_pos z2]
            have z2' := eq_true z2
            have ob := r_onesB (x := gI (ct 0) 2 i) (bel_mono (WF_30 wf) (wf.2.1.2.1 i i6)) (wI m 49 0 0)
            refine ⟨wI m 49 0 0, ?_, e0, Qr_0 m 0⟩
            unfold F_X12_member
            simp only [gO49 g, gO49 g0, gd_t, lt9_e, jn_e, bdE im, ↓i10, ↓i00, bdE b0, bdE wt', bdE b2, gR49_23 g0, oc_s, z0', z1', z2', if_true, if_false, s12, gA473 g0 (show 12 + i < 968 by omega), i12', RRg rr i6, bdE ob]
          · rw [if_neg z2]
            have z2' := eq_false z2
            by_cases z3 : w = 3
            · rw [if_pos z3]
              have z3' := eq_true z3
              have ob := r_onesB (x := gI (ct 0) 3 i) (bel_mono (WF_30 wf) (wf.2.1.2.2.1 i i6)) (wI m 49 0 0)
              refine ⟨wI m 49 0 0, ?_, e0, Qr_0 m 0⟩
              unfold F_X12_member
              simp only [gO49 g, gO49 g0, gd_t, lt9_e, jn_e, bdE im, ↓i10, ↓i00, bdE b0, bdE wt', bdE b2, gR49_23 g0, oc_s, z0', z1', z2', z3', if_true, if_false, s18, gA473 g0 (show 18 + i < 968 by omega), i18', RRk rr i6, bdE ob]
            · rw [if_neg z3]
              have z3' := eq_false z3
              by_cases z4 : w = 4
              · rw [if_pos z4]
                have z4' := eq_true z4
                refine ⟨wI m 49 0 0, ?_, e0, Qr_0 m 0⟩
                unfold F_X12_member
                simp only [gO49 g, gO49 g0, gd_t, lt9_e, jn_e, bdE im, ↓i10, ↓i00, bdE b0, bdE wt', bdE b2, gR49_23 g0, oc_s, z0', z1', z2', z3', z4', if_true, if_false, s30, gA473 g0 (show 30 + i < 968 by omega), i30', RRh rr i6]
              · rw [if_neg z4]
                have z4' := eq_false z4
                by_cases z5 : w = 5
                · rw [if_pos z5]
                  have z5' := eq_true z5
                  obtain ⟨m1, x1, x2⟩ := r_weight (.inl rfl) rc rr wf i6
                  refine ⟨m1, ?_, by rw [(x2.1 49 (by unfold AR; omega)).1]; exact e0, Qr_trans (Qr_0 m 0) (Qr_AR x2)⟩
                  unfold F_X12_member
                  simp only [gO49 g, gO49 g0, gd_t, lt9_e, jn_e, bdE im, ↓i10, ↓i00, bdE b0, bdE wt', bdE b2, gR49_23 g0, oc_s, z0', z1', z2', z3', z4', z5', if_true, if_false, bdE x1]
                · rw [if_neg z5]
                  have z5' := eq_false z5
                  obtain ⟨b, hb0, hb, hb1, hb2⟩ := wf.2.1.2.2.2.2.2.2.2.2.2.1
                  obtain ⟨gg, hg, hg1, hg2, hg3⟩ := hb2 i i6
                  obtain ⟨e, he, hh⟩ := wf.2.1.2.2.2.2.2.2.2.2.1 i i6
                  have k4 := RRo rr i6
                  have mm := more_mx 0 (rI (wI m 49 0 0) 473 (6 + i)) (wI m 49 0 0)
                  have ans : mxI 0 (rI (wI m 49 0 0) 473 (6 + i)) = gI (ct 0) 7 i := by
                    rw [k4]
                    by_cases q : 0 < gI (ct 0) 1 i
                    · rw [if_pos q, hh, mx_0 he]
                    · rw [if_neg q, mx_m, hg3 ?_]
                      rw [hg1, show (0 : Int32) = ni 0 from rfl, ni_lt (by omega) (by have := wf.2.2; omega)] at q
                      omega
                  rw [ans] at mm
                  refine ⟨wI m 49 0 0, ?_, e0, Qr_0 m 0⟩
                  unfold F_X12_member
                  simp only [gO49 g, gO49 g0, gd_t, lt9_e, jn_e, bdE im, ↓i10, ↓i00, if_true, bdE b0, bdE wt', bdE b2, gR49_23 g0, oc_s, z0', z1', z2', z3', z4', z5', if_false, s6, gA473 g0 (show 6 + i < 968 by omega), i6', bdE mm]
    · rw [if_neg hw]
      rw [decide_eq_false hw, b2i_f] at wt'
      refine ⟨2, rfl, ?_⟩
      unfold F_X12_member
      simp only [gO49 g, gO49 g0, gd_t, lt9_e, jn_e, bdE im, ↓i10, ↓i00, if_true, bdE b0, bdE wt', bdE b3]
  · rw [if_neg hm]
    rw [decide_eq_false hm, b2i_f] at im
    refine ⟨1, rfl, ?_⟩
    unfold F_X12_member
    simp only [gO49 g, gO49 g0, gd_t, lt9_e, jn_e, bdE im, ↓i10, ↓i00, if_true, bdE b1]
/-! message -/
def msgP (σ : St) (k : Nat) (w : Int32) : Int32 := if w = 0 then gI σ 8 k else if w = 1 then gI σ 9 k else if w = 2 then ownersOf σ 2 k else if w = 3 then ownersOf σ 3 k else gI σ 10 k
theorem qc_message {n l len : Nat} {cs : Nat → Nat} {bk : List (Nat × Nat)} {y : Nat → Nat} {t : Nat} {pl rf : Int32} {ru : Nat → Int32} {pk ik : Nat} {jk : Nat → Nat} {ct : Nat → St} {B : Nat} {m : Mm} {a w : Int32} (p : IP n l len cs bk pk ik jk ct B) (h : IC n l len cs bk y t pl rf ru pk ik jk ct m) (hN : mN m + 1 < K9) : CA (F_X11_message 0 a w m) (if ¬ w < 0 ∧ ¬ 4 < w then (if ¬ a < 0 ∧ ¬ 29 < a then (if gI (ct 0) 0 7 ≤ a then .inr 2 else .inl (msgP (ct 0) (ix a) w)) else .inr 3) else .inr 1 : Int32 ⊕ Nat) m := by
  obtain ⟨q, ha, wf, g⟩ := IC_ctx p h
  have c16 := G_16 g
  have wt' := wth w 0 4 m
  have aw' := wth a 0 29 m
  by_cases hw : ¬ w < 0 ∧ ¬ 4 < w
  · rw [if_pos hw]
    rw [decide_eq_true hw, b2i_t] at wt'
    have k2 : F_X11_need 0 1 m = some (.inl (), m) := c_need1
    by_cases hm : ¬ a < 0 ∧ ¬ 29 < a
    · rw [if_pos hm]
      rw [decide_eq_true hm, b2i_t] at aw'
      have k3 : F_X11_needIndex 0 1 m = some (.inl (), m) := needX_t
      have p7 : rI m 16 7 = gI (ct 0) 0 7 := by rw [rI_o0 16 m (by omega), ha]
      by_cases hl : gI (ct 0) 0 7 ≤ a
      · rw [if_pos hl]
        have hl' := eq_true hl
        refine ⟨by omega, 8, by omega, ?_⟩
        unfold F_X11_message
        simp only [gO0 g, gd_t, bdE wt', bxL k2, bdE aw', bxL k3, gR0_6 g, oc_s, gO16 g, jn_e, p7, hl', if_true, bxR (needP_f g hN)]
      · rw [if_neg hl]
        have hl' := eq_false hl
        have k4 : F_X11_needPointer 0 1 m = some (.inl (), m) := needP_t
        obtain ⟨k, hk, rfl⟩ := ni_of hm.1 (n := 30) (by omega) (fun z => hm.2 (by
          rw [nx_of hm.1, ni_le (by omega) (ix_B a)] at z
          rw [nx_of hm.1, show (29 : Int32) = ni 29 from rfl, ni_lt (by omega) (ix_B a)]
          omega))
        have ixk : ix (ni k) = k := ix_ni (by omega)
        have o8 : rI m (16 + 8) k = gI (ct 0) 8 k := by rw [rI_o8 16 m hk, ha]
        have o9 : rI m (16 + 9) k = gI (ct 0) 9 k := by rw [rI_o9 16 m hk, ha]
        have o10' : rI m (16 + 10) k = gI (ct 0) 10 k := by rw [rI_o10 16 m hk, ha]
        have w2 := c_own (b := 2) c16 hk (.inl rfl)
        have w3 := c_own (b := 3) c16 hk (.inr rfl)
        rw [ha] at w2 w3
        rw [ixk]
        refine ⟨m, ?_, Qf_refl m⟩
        unfold F_X11_message msgP
        by_cases z0 : w = 0
        · have z0' := eq_true z0
          simp only [gO0 g, gd_t, bdE wt', bxL k2, bdE aw', bxL k3, gR0_6 g, oc_s, gO16 g, jn_e, p7, hl', if_false, bxL k4, z0', if_true, CSh_sen c16, CSh_o8 c16 hk, ixk, o8]
        · have z0' := eq_false z0
          by_cases z1 : w = 1
          · have z1' := eq_true z1
            simp only [gO0 g, gd_t, bdE wt', bxL k2, bdE aw', bxL k3, gR0_6 g, oc_s, gO16 g, jn_e, p7, hl', if_false, bxL k4, z0', z1', if_true, CSh_val c16, CSh_o9 c16 hk, ixk, o9]
          · have z1' := eq_false z1
            by_cases z2 : w = 2
            · have z2' := eq_true z2
              simp only [gO0 g, gd_t, bdE wt', bxL k2, bdE aw', bxL k3, gR0_6 g, oc_s, gO16 g, jn_e, p7, hl', if_false, bxL k4, z0', z1', z2', if_true, CSh_got c16, bdE w2]
            · have z2' := eq_false z2
              by_cases z3 : w = 3
              · have z3' := eq_true z3
                simp only [gO0 g, gd_t, bdE wt', bxL k2, bdE aw', bxL k3, gR0_6 g, oc_s, gO16 g, jn_e, p7, hl', if_false, bxL k4, z0', z1', z2', z3', if_true, CSh_kee c16, bdE w3]
              · have z3' := eq_false z3
                simp only [gO0 g, gd_t, bdE wt', bxL k2, bdE aw', bxL k3, gR0_6 g, oc_s, gO16 g, jn_e, p7, hl', if_false, bxL k4, z0', z1', z2', z3', CSh_way c16, CSh_o10 c16 hk, ixk, o10']
    · rw [if_neg hm]
      rw [decide_eq_false hm, b2i_f] at aw'
      refine ⟨by omega, 6, by omega, ?_⟩
      unfold F_X11_message
      simp only [gO0 g, gd_t, bdE wt', bxL k2, bdE aw', bxR (needX_f g hN)]
  · rw [if_neg hw]
    rw [decide_eq_false hw, b2i_f] at wt'
    have k2 := need_f g hN
    rw [b2i_f] at k2
    refine ⟨by omega, 6, by omega, ?_⟩
    unfold F_X11_message
    simp only [gO0 g, gd_t, bdE wt', bxR k2]
def whF (T : Nat → Bool) (i : Nat) (a : Int32) : Int32 := a ||| (if T i then bit i else 0)
theorem r_whoL {n f k : Nat} {m : Mm} {T : Nat → Bool} (g : G m) (h53 : rI m 53 0 = ni n) (hn : n ≤ 6) (hf6 : f + 6 < 968) (hk : k < 30) (hT : ∀ i, i < n → tb (rI m 473 (f + i)) k = T i) : ∀ (d i fuel : Nat) (x : Int32), i + d = n → d < fuel → L_X12_whoHas_5 fuel 49 (ni f) (ni k) x (ni i) m = some (itn (whF T) d i x, m) := by
  intro d
  induction d with
  | zero =>
    intro i fuel x hd hf
    obtain ⟨fuel, rfl⟩ : ∃ z, fuel = z + 1 := ⟨fuel - 1, by omega⟩
    have e : (ni n ≤ ni i) = True := eq_true (by rw [ni_le (by omega) (by omega)]; omega)
    rw [L_X12_whoHas_5]
    simp (disch := first | assumption | omega | ((repeat (first | assumption | apply G_wI | apply G_wL | apply CSh_wI | apply CSh_wL)); done) | decide) only [↓dO0, ↓dO1, ↓dA2, ↓dK2, ↓dT2, ↓dO3, ↓dO4, ↓dA5, ↓dK5, ↓dT5, ↓dA6, ↓dK6, ↓dT6, ↓dA7, ↓dK7, ↓dT7, ↓dO8, ↓dA9, ↓dK9, ↓dT9, ↓dA10, ↓dK10, ↓dT10, ↓dA11, ↓dK11, ↓dT11, ↓dO12, ↓dA13, ↓dK13, ↓dT13, ↓dO14, ↓dA15, ↓dK15, ↓dT15, ↓dO16, ↓dO29, ↓dO42, ↓dA43, ↓dK43, ↓dT43, ↓dA44, ↓dK44, ↓dT44, ↓dO45, ↓dA46, ↓dK46, ↓dT46, ↓dO47, ↓dA48, ↓dK48, ↓dT48, ↓dO49, ↓dA50, ↓dK50, ↓dT50, ↓dA51, ↓dK51, ↓dT51, ↓dA52, ↓dK52, ↓dT52, ↓dA53, ↓dK53, ↓dT53, ↓dA54, ↓dK54, ↓dT54, ↓dA215, ↓dK215, ↓dT215, ↓dA376, ↓dK376, ↓dT376, ↓dA383, ↓dK383, ↓dT383, ↓dA390, ↓dK390, ↓dT390, ↓dA391, ↓dK391, ↓dT391, ↓dA392, ↓dK392, ↓dT392, ↓dA473, ↓dK473, ↓dT473, ↓dA474, ↓dK474, ↓dT474, ↓dA475, ↓dK475, ↓dT475, ↓dA492, ↓dK492, ↓dT492, ↓dA496, ↓dK496, ↓dT496, ↓dA497, ↓dK497, ↓dT497, ↓dR0_0, ↓dR0_1, ↓dR0_2, ↓dR0_3, ↓dR0_4, ↓dR0_5, ↓dR0_6, ↓dR0_7, ↓dR0_8, ↓dR0_9, ↓dR0_10, ↓dR0_11, ↓dR0_12, ↓dR1_0, ↓dR4_2, ↓dR8_0, ↓dR8_1, ↓dR8_2, ↓dR12_5, ↓dR14_0, ↓dR14_1, ↓dR14_2, ↓dR42_0, ↓dR45_0, ↓dR49_9, ↓dR49_10, ↓dR49_11, ↓dR49_12, ↓dR49_15, ↓dR49_16, ↓dR49_17, ↓dR49_18, ↓dR49_19, ↓dR49_20, ↓dR49_21, ↓dR49_23, ↓dR49_24, ↓dR49_25, ↓dR49_26, ↓dR49_34, ↓dF54, ↓dB54, ↓dC54, ↓dF215, ↓dB215, ↓dC215, ↓dF376, ↓dB376, ↓dC376, ↓dF383, ↓dB383, ↓dC383, ↓dF392, ↓dB392, ↓dC392, ↓dF475, ↓dB475, ↓dC475, ↓dF492, ↓dB492, ↓dC492, ↓lt9_e, ↓jn_e, ↓bd_s, gd_t, bd_s, oc_s, oc_n, lt9_e, jn_e, okOwI, okAwI, okTwI, lnwI, okOwL, okAwL, okTwL, lnwL, rRwI, rRwL, sHwI, sHwL, rIwL, rLwI, gO0, gO1, gA2, gK2, gT2, gN2, gO3, gO4, gA5, gK5, gT5, gN5, gA6, gK6, gT6, gN6, gA7, gK7, gT7, gN7, gO8, gA9, gK9, gT9, gN9, gA10, gK10, gT10, gN10, gA11, gK11, gT11, gN11, gO12, gA13, gK13, gT13, gN13, gO14, gA15, gK15, gT15, gN15, gO16, gO29, gO42, gA43, gK43, gT43, gN43, gA44, gK44, gT44, gN44, gO45, gA46, gK46, gT46, gN46, gO47, gA48, gK48, gT48, gN48, gO49, gA50, gK50, gT50, gN50, gA51, gK51, gT51, gN51, gA52, gK52, gT52, gN52, gA53, gK53, gT53, gN53, gA54, gK54, gT54, gN54, gA215, gK215, gT215, gN215, gA376, gK376, gT376, gN376, gA383, gK383, gT383, gN383, gA390, gK390, gT390, gN390, gA391, gK391, gT391, gN391, gA392, gK392, gT392, gN392, gA473, gK473, gT473, gN473, gA474, gK474, gT474, gN474, gA475, gK475, gT475, gN475, gA492, gK492, gT492, gN492, gA496, gK496, gT496, gN496, gA497, gK497, gT497, gN497, gR0_0, gR0_1, gR0_2, gR0_3, gR0_4, gR0_5, gR0_6, gR0_7, gR0_8, gR0_9, gR0_10, gR0_11, gR0_12, gR1_0, gR4_2, gR8_0, gR8_1, gR8_2, gR12_5, gR14_0, gR14_1, gR14_2, gR42_0, gR45_0, gR49_9, gR49_10, gR49_11, gR49_12, gR49_15, gR49_16, gR49_17, gR49_18, gR49_19, gR49_20, gR49_21, gR49_23, gR49_24, gR49_25, gR49_26, gR49_34, gF54, gB54, gC54, gF215, gB215, gC215, gF376, gB376, gC376, gF383, gB383, gC383, gF392, gB392, gC392, gF475, gB475, gC475, gF492, gB492, gC492, ni_le, ni_lt, ni_eq, ni_add, ni_mul, lni_le, lni_lt, nil_le, nil_lt, lni_eq, nil_eq, lni_add, nil_add, lni_mul, nil_mul, ix_ni, ix_lit, ni_ne1, ni_lt0, ↓reduceIte, Nat.reduceEqDiff, Nat.reduceMul, Nat.reduceAdd, Nat.reduceLeDiff, and_true, true_and, false_and, and_false, if_true, if_false, Nat.not_lt_zero, false_or, or_false, ft9, decide_true, o10, eq_self, b2i_0, b2i_1, b2i_ok, b2i_inj, b2i_t, b2i_f, rIwIk, h53, e]
    rfl
  | succ d ih =>
    intro i fuel x hd hf
    obtain ⟨fuel, rfl⟩ : ∃ z, fuel = z + 1 := ⟨fuel - 1, by omega⟩
    have e : (ni n ≤ ni i) = False := eq_false (fun z => by rw [ni_le (by omega) (by omega)] at z; omega)
    have k6 := hasR (x := rI m 473 (f + i)) (i := k) (by omega) m
    rw [hT i (by omega)] at k6
    have lt : f + i < 968 := by omega
    rw [show itn (whF T) (d + 1) i x = itn (whF T) d (i + 1) (whF T i x) from rfl, ← ih (i + 1) fuel (whF T i x) (by omega) (by omega), L_X12_whoHas_5]
    cases et : T i with
    | false =>
      rw [et, b2i_f] at k6
      have hF : whF T i x = x ||| 0 := by unfold whF; rw [et]; rfl
      rw [hF]
      simp (disch := first | assumption | omega | ((repeat (first | assumption | apply G_wI | apply G_wL | apply CSh_wI | apply CSh_wL)); done) | decide) only [↓dO0, ↓dO1, ↓dA2, ↓dK2, ↓dT2, ↓dO3, ↓dO4, ↓dA5, ↓dK5, ↓dT5, ↓dA6, ↓dK6, ↓dT6, ↓dA7, ↓dK7, ↓dT7, ↓dO8, ↓dA9, ↓dK9, ↓dT9, ↓dA10, ↓dK10, ↓dT10, ↓dA11, ↓dK11, ↓dT11, ↓dO12, ↓dA13, ↓dK13, ↓dT13, ↓dO14, ↓dA15, ↓dK15, ↓dT15, ↓dO16, ↓dO29, ↓dO42, ↓dA43, ↓dK43, ↓dT43, ↓dA44, ↓dK44, ↓dT44, ↓dO45, ↓dA46, ↓dK46, ↓dT46, ↓dO47, ↓dA48, ↓dK48, ↓dT48, ↓dO49, ↓dA50, ↓dK50, ↓dT50, ↓dA51, ↓dK51, ↓dT51, ↓dA52, ↓dK52, ↓dT52, ↓dA53, ↓dK53, ↓dT53, ↓dA54, ↓dK54, ↓dT54, ↓dA215, ↓dK215, ↓dT215, ↓dA376, ↓dK376, ↓dT376, ↓dA383, ↓dK383, ↓dT383, ↓dA390, ↓dK390, ↓dT390, ↓dA391, ↓dK391, ↓dT391, ↓dA392, ↓dK392, ↓dT392, ↓dA473, ↓dK473, ↓dT473, ↓dA474, ↓dK474, ↓dT474, ↓dA475, ↓dK475, ↓dT475, ↓dA492, ↓dK492, ↓dT492, ↓dA496, ↓dK496, ↓dT496, ↓dA497, ↓dK497, ↓dT497, ↓dR0_0, ↓dR0_1, ↓dR0_2, ↓dR0_3, ↓dR0_4, ↓dR0_5, ↓dR0_6, ↓dR0_7, ↓dR0_8, ↓dR0_9, ↓dR0_10, ↓dR0_11, ↓dR0_12, ↓dR1_0, ↓dR4_2, ↓dR8_0, ↓dR8_1, ↓dR8_2, ↓dR12_5, ↓dR14_0, ↓dR14_1, ↓dR14_2, ↓dR42_0, ↓dR45_0, ↓dR49_9, ↓dR49_10, ↓dR49_11, ↓dR49_12, ↓dR49_15, ↓dR49_16, ↓dR49_17, ↓dR49_18, ↓dR49_19, ↓dR49_20, ↓dR49_21, ↓dR49_23, ↓dR49_24, ↓dR49_25, ↓dR49_26, ↓dR49_34, ↓dF54, ↓dB54, ↓dC54, ↓dF215, ↓dB215, ↓dC215, ↓dF376, ↓dB376, ↓dC376, ↓dF383, ↓dB383, ↓dC383, ↓dF392, ↓dB392, ↓dC392, ↓dF475, ↓dB475, ↓dC475, ↓dF492, ↓dB492, ↓dC492, ↓lt9_e, ↓jn_e, ↓bd_s, gd_t, bd_s, oc_s, oc_n, lt9_e, jn_e, okOwI, okAwI, okTwI, lnwI, okOwL, okAwL, okTwL, lnwL, rRwI, rRwL, sHwI, sHwL, rIwL, rLwI, gO0, gO1, gA2, gK2, gT2, gN2, gO3, gO4, gA5, gK5, gT5, gN5, gA6, gK6, gT6, gN6, gA7, gK7, gT7, gN7, gO8, gA9, gK9, gT9, gN9, gA10, gK10, gT10, gN10, gA11, gK11, gT11, gN11, gO12, gA13, gK13, gT13, gN13, gO14, gA15, gK15, gT15, gN15, gO16, gO29, gO42, gA43, gK43, gT43, gN43, gA44, gK44, gT44, gN44, gO45, gA46, gK46, gT46, gN46, gO47, gA48, gK48, gT48, gN48, gO49, gA50, gK50, gT50, gN50, gA51, gK51, gT51, gN51, gA52, gK52, gT52, gN52, gA53, gK53, gT53, gN53, gA54, gK54, gT54, gN54, gA215, gK215, gT215, gN215, gA376, gK376, gT376, gN376, gA383, gK383, gT383, gN383, gA390, gK390, gT390, gN390, gA391, gK391, gT391, gN391, gA392, gK392, gT392, gN392, gA473, gK473, gT473, gN473, gA474, gK474, gT474, gN474, gA475, gK475, gT475, gN475, gA492, gK492, gT492, gN492, gA496, gK496, gT496, gN496, gA497, gK497, gT497, gN497, gR0_0, gR0_1, gR0_2, gR0_3, gR0_4, gR0_5, gR0_6, gR0_7, gR0_8, gR0_9, gR0_10, gR0_11, gR0_12, gR1_0, gR4_2, gR8_0, gR8_1, gR8_2, gR12_5, gR14_0, gR14_1, gR14_2, gR42_0, gR45_0, gR49_9, gR49_10, gR49_11, gR49_12, gR49_15, gR49_16, gR49_17, gR49_18, gR49_19, gR49_20, gR49_21, gR49_23, gR49_24, gR49_25, gR49_26, gR49_34, gF54, gB54, gC54, gF215, gB215, gC215, gF376, gB376, gC376, gF383, gB383, gC383, gF392, gB392, gC392, gF475, gB475, gC475, gF492, gB492, gC492, ni_le, ni_lt, ni_eq, ni_add, ni_mul, lni_le, lni_lt, nil_le, nil_lt, lni_eq, nil_eq, lni_add, nil_add, lni_mul, nil_mul, ix_ni, ix_lit, ni_ne1, ni_lt0, ↓reduceIte, Nat.reduceEqDiff, Nat.reduceMul, Nat.reduceAdd, Nat.reduceLeDiff, and_true, true_and, false_and, and_false, if_true, if_false, Nat.not_lt_zero, false_or, or_false, ft9, decide_true, o10, eq_self, b2i_0, b2i_1, b2i_ok, b2i_inj, b2i_t, b2i_f, rIwIk, h53, e, lt, ↓bdE k6]
    | true =>
      rw [et, b2i_t] at k6
      have hF : whF T i x = x ||| ((1 : Int32) <<< (ni i &&& 31)) := by unfold whF; rw [et]; rfl
      rw [hF]
      simp (disch := first | assumption | omega | ((repeat (first | assumption | apply G_wI | apply G_wL | apply CSh_wI | apply CSh_wL)); done) | decide) only [↓dO0, ↓dO1, ↓dA2, ↓dK2, ↓dT2, ↓dO3, ↓dO4, ↓dA5, ↓dK5, ↓dT5, ↓dA6, ↓dK6, ↓dT6, ↓dA7, ↓dK7, ↓dT7, ↓dO8, ↓dA9, ↓dK9, ↓dT9, ↓dA10, ↓dK10, ↓dT10, ↓dA11, ↓dK11, ↓dT11, ↓dO12, ↓dA13, ↓dK13, ↓dT13, ↓dO14, ↓dA15, ↓dK15, ↓dT15, ↓dO16, ↓dO29, ↓dO42, ↓dA43, ↓dK43, ↓dT43, ↓dA44, ↓dK44, ↓dT44, ↓dO45, ↓dA46, ↓dK46, ↓dT46, ↓dO47, ↓dA48, ↓dK48, ↓dT48, ↓dO49, ↓dA50, ↓dK50, ↓dT50, ↓dA51, ↓dK51, ↓dT51, ↓dA52, ↓dK52, ↓dT52, ↓dA53, ↓dK53, ↓dT53, ↓dA54, ↓dK54, ↓dT54, ↓dA215, ↓dK215, ↓dT215, ↓dA376, ↓dK376, ↓dT376, ↓dA383, ↓dK383, ↓dT383, ↓dA390, ↓dK390, ↓dT390, ↓dA391, ↓dK391, ↓dT391, ↓dA392, ↓dK392, ↓dT392, ↓dA473, ↓dK473, ↓dT473, ↓dA474, ↓dK474, ↓dT474, ↓dA475, ↓dK475, ↓dT475, ↓dA492, ↓dK492, ↓dT492, ↓dA496, ↓dK496, ↓dT496, ↓dA497, ↓dK497, ↓dT497, ↓dR0_0, ↓dR0_1, ↓dR0_2, ↓dR0_3, ↓dR0_4, ↓dR0_5, ↓dR0_6, ↓dR0_7, ↓dR0_8, ↓dR0_9, ↓dR0_10, ↓dR0_11, ↓dR0_12, ↓dR1_0, ↓dR4_2, ↓dR8_0, ↓dR8_1, ↓dR8_2, ↓dR12_5, ↓dR14_0, ↓dR14_1, ↓dR14_2, ↓dR42_0, ↓dR45_0, ↓dR49_9, ↓dR49_10, ↓dR49_11, ↓dR49_12, ↓dR49_15, ↓dR49_16, ↓dR49_17, ↓dR49_18, ↓dR49_19, ↓dR49_20, ↓dR49_21, ↓dR49_23, ↓dR49_24, ↓dR49_25, ↓dR49_26, ↓dR49_34, ↓dF54, ↓dB54, ↓dC54, ↓dF215, ↓dB215, ↓dC215, ↓dF376, ↓dB376, ↓dC376, ↓dF383, ↓dB383, ↓dC383, ↓dF392, ↓dB392, ↓dC392, ↓dF475, ↓dB475, ↓dC475, ↓dF492, ↓dB492, ↓dC492, ↓lt9_e, ↓jn_e, ↓bd_s, gd_t, bd_s, oc_s, oc_n, lt9_e, jn_e, okOwI, okAwI, okTwI, lnwI, okOwL, okAwL, okTwL, lnwL, rRwI, rRwL, sHwI, sHwL, rIwL, rLwI, gO0, gO1, gA2, gK2, gT2, gN2, gO3, gO4, gA5, gK5, gT5, gN5, gA6, gK6, gT6, gN6, gA7, gK7, gT7, gN7, gO8, gA9, gK9, gT9, gN9, gA10, gK10, gT10, gN10, gA11, gK11, gT11, gN11, gO12, gA13, gK13, gT13, gN13, gO14, gA15, gK15, gT15, gN15, gO16, gO29, gO42, gA43, gK43, gT43, gN43, gA44, gK44, gT44, gN44, gO45, gA46, gK46, gT46, gN46, gO47, gA48, gK48, gT48, gN48, gO49, gA50, gK50, gT50, gN50, gA51, gK51, gT51, gN51, gA52, gK52, gT52, gN52, gA53, gK53, gT53, gN53, gA54, gK54, gT54, gN54, gA215, gK215, gT215, gN215, gA376, gK376, gT376, gN376, gA383, gK383, gT383, gN383, gA390, gK390, gT390, gN390, gA391, gK391, gT391, gN391, gA392, gK392, gT392, gN392, gA473, gK473, gT473, gN473, gA474, gK474, gT474, gN474, gA475, gK475, gT475, gN475, gA492, gK492, gT492, gN492, gA496, gK496, gT496, gN496, gA497, gK497, gT497, gN497, gR0_0, gR0_1, gR0_2, gR0_3, gR0_4, gR0_5, gR0_6, gR0_7, gR0_8, gR0_9, gR0_10, gR0_11, gR0_12, gR1_0, gR4_2, gR8_0, gR8_1, gR8_2, gR12_5, gR14_0, gR14_1, gR14_2, gR42_0, gR45_0, gR49_9, gR49_10, gR49_11, gR49_12, gR49_15, gR49_16, gR49_17, gR49_18, gR49_19, gR49_20, gR49_21, gR49_23, gR49_24, gR49_25, gR49_26, gR49_34, gF54, gB54, gC54, gF215, gB215, gC215, gF376, gB376, gC376, gF383, gB383, gC383, gF392, gB392, gC392, gF475, gB475, gC475, gF492, gB492, gC492, ni_le, ni_lt, ni_eq, ni_add, ni_mul, lni_le, lni_lt, nil_le, nil_lt, lni_eq, nil_eq, lni_add, nil_add, lni_mul, nil_mul, ix_ni, ix_lit, ni_ne1, ni_lt0, ↓reduceIte, Nat.reduceEqDiff, Nat.reduceMul, Nat.reduceAdd, Nat.reduceLeDiff, and_true, true_and, false_and, and_false, if_true, if_false, Nat.not_lt_zero, false_or, or_false, ft9, decide_true, o10, eq_self, b2i_0, b2i_1, b2i_ok, b2i_inj, b2i_t, b2i_f, rIwIk, h53, e, lt, ↓bdE k6]
theorem whF_tb {T : Nat → Bool} : ∀ (d i : Nat) (x : Int32) (j : Nat), i + d ≤ 32 → tb (itn (whF T) d i x) j = (tb x j || (decide (i ≤ j ∧ j < i + d) && T j)) := by
  intro d
  induction d with
  | zero =>
    intro i x j hd
    have : ¬ (i ≤ j ∧ j < i + 0) := by omega
    rw [decide_eq_false this]
    simp [itn]
  | succ d ih =>
    intro i x j hd
    rw [show itn (whF T) (d + 1) i x = itn (whF T) d (i + 1) (whF T i x) from rfl, ih (i + 1) _ j (by omega)]
    have hb : tb (if T i then bit i else 0) j = (decide (j = i) && T i) := by
      cases et : T i with
      | true =>
        rw [if_pos rfl]
        unfold bit
        rw [tb_bit (by omega)]
        simp
      | false =>
        rw [if_neg (by decide), tb_0]
        simp
    unfold whF
    rw [tb_or, hb]
    by_cases e : j = i
    · subst e
      have h1 : ¬ (j + 1 ≤ j ∧ j < j + 1 + d) := by omega
      have h2 : j ≤ j ∧ j < j + (d + 1) := by omega
      rw [decide_eq_false h1, decide_eq_true h2, decide_eq_true rfl]
      simp
    · rw [decide_eq_false e]
      by_cases h3 : i ≤ j ∧ j < i + (d + 1)
      · have h4 : i + 1 ≤ j ∧ j < i + 1 + d := by omega
        rw [decide_eq_true h3, decide_eq_true h4]
        simp
      · have h4 : ¬ (i + 1 ≤ j ∧ j < i + 1 + d) := by omega
        rw [decide_eq_false h3, decide_eq_false h4]
        simp
theorem own_wh (σ : St) (b k : Nat) : ownersOf σ b k = itn (whF (fun i => tb (gI σ b i) k)) 6 0 0 := by
  unfold ownersOf
  refine itn_cg (P := fun _ _ => True) 6 0 0 trivial (fun i x h1 h2 _ => ⟨?_, trivial⟩)
  unfold ownF whF
  congr 1
  have z : ∀ i, i < 6 → b2i true <<< (ni i &&& 31) = bit i ∧ b2i false <<< (ni i &&& 31) = 0 := by decide
  have z := z i (by omega)
  show b2i (tb (gI σ b i) k) <<< (ni i &&& 31) = if tb (gI σ b i) k = true then bit i else 0
  cases tb (gI σ b i) k with
  | true => exact z.1
  | false => exact z.2
theorem wh_own {n B b k : Nat} {σ : St} (wf : WF n B σ) (hb : b = 2 ∨ b = 3) : itn (whF (fun i => tb (gI σ b i) k)) n 0 0 = ownersOf σ b k := by
  rw [own_wh]
  refine (itn_tail (WF_6 wf) (fun i h1 h2 => ?_)).symm
  have z := wf.2.1.2.2.2.2.2.2.2.2.2.2 i h1 h2
  have e : gI σ b i = 0 := by
    rcases hb with rfl | rfl
    · exact z.1
    · exact z.2.1
  have e2 : whF (fun i => tb (gI σ b i) k) i = fun a => a ||| (if tb (gI σ b i) k = true then bit i else 0) := rfl
  rw [e2, e, tb_0]
  show _ ||| (if false = true then bit i else 0) = _
  rw [if_neg (by decide), Int32.or_zero]
theorem wh_way {n B k : Nat} {σ : St} (wf : WF n B σ) (hk : k < 30) : itn (whF (fun i => tb (gI σ 10 k) i)) n 0 0 = gI σ 10 k := by
  have hn := WF_6 wf
  apply tb_ext
  intro j hj
  rw [whF_tb n 0 0 j (by omega), tb_0]
  by_cases e : j < n
  · rw [decide_eq_true (show 0 ≤ j ∧ j < 0 + n by omega)]
    simp
  · rw [decide_eq_false (show ¬ (0 ≤ j ∧ j < 0 + n) by omega)]
    cases et : tb (gI σ 10 k) j with
    | false => rfl
    | true =>
      exfalso
      have z := wf.2.1.2.2.2.2.1 k hk j et
      rw [wf.1.2.2.1 j (by omega)] at z
      cases z
theorem qr_message {n l len : Nat} {cs : Nat → Nat} {bk : List (Nat × Nat)} {y : Nat → Nat} {t : Nat} {pl rf : Int32} {ru : Nat → Int32} {pk ik : Nat} {jk : Nat → Nat} {ct : Nat → St} {B : Nat} {m : Mm} {a w : Int32} (p : IP n l len cs bk pk ik jk ct B) (g : G m) (h : IR n l len cs bk y t pl rf ru pk ik jk ct m) : RA (F_X12_message 49 a w m) (if ¬ w < 0 ∧ ¬ 4 < w then (if ¬ a < 0 ∧ ¬ 29 < a then (if gI (ct 0) 0 7 ≤ a then .inr 2 else .inl (msgP (ct 0) (ix a) w)) else .inr 3) else .inr 1 : Int32 ⊕ Nat) hx_L_message 0 m := by
  have g0 : G (wI m 49 0 0) := G_wI g
  have rc := IR_RC p g0 (IR_0 0 h)
  have rr := IR_now (IR_0 0 h)
  have wf : WF n B (ct 0) := p.2.2.2.2.2.2.2 0 (Val_0 _ _ _)
  have e0 := w0_0 m
  have b0 := bad_f (c := 1) (r := 1) g0 e0
  have b1 : F_X12_bad 49 1 1 1 (wI m 49 0 0) = some (1, bdM m 1 1) := bad_t (k := 1) g (by omega) (by decide)
  have b2 := bad_f (c := 3) (r := 3) g0 e0
  have b3 : F_X12_bad 49 1 3 3 (wI m 49 0 0) = some (1, bdM m 3 3) := bad_t (k := 3) g (by omega) (by decide)
  have b4 := bad_f (c := 2) (r := 2) g0 e0
  have b5 : F_X12_bad 49 1 2 2 (wI m 49 0 0) = some (1, bdM m 2 2) := bad_t (k := 2) g (by omega) (by decide)
  have wt' := inr w 0 4 (wI m 49 0 0)
  have aw' := inr a 0 29 (wI m 49 0 0)
  by_cases hw : ¬ w < 0 ∧ ¬ 4 < w
  · rw [if_pos hw]
    rw [decide_eq_true hw, b2i_t] at wt'
    by_cases hm : ¬ a < 0 ∧ ¬ 29 < a
    · rw [if_pos hm]
      rw [decide_eq_true hm, b2i_t] at aw'
      have r187 : rI (wI m 49 0 0) 473 (ix (187 : Int32)) = gI (ct 0) 0 7 := RR187 rr
      by_cases hl : gI (ct 0) 0 7 ≤ a
      · rw [if_pos hl]
        have hl' : (a < gI (ct 0) 0 7) = False := eq_false (Int32.not_lt.mpr hl)
        refine ⟨2, rfl, ?_⟩
        unfold F_X12_message
        simp only [gO49 g, gO49 g0, gd_t, lt9_e, jn_e, bdE wt', ↓i10, ↓i00, if_true, bdE b0, bdE aw', bdE b2, gR49_23 g0, oc_s, gK473 g0 (show 187 < 968 by omega), r187, hl', if_false, bdE b5]
      · rw [if_neg hl]
        have hl' : (a < gI (ct 0) 0 7) = True := eq_true (Int32.not_le.mp hl)
        obtain ⟨k, hk, rfl⟩ := ni_of hm.1 (n := 30) (by omega) (fun z => hm.2 (by
          rw [nx_of hm.1, ni_le (by omega) (ix_B a)] at z
          rw [nx_of hm.1, show (29 : Int32) = ni 29 from rfl, ni_lt (by omega) (ix_B a)]
          omega))
        have hkm : k < mc (ct 0) := by
          have z := hl
          have := WF_30 wf
          rw [WF_mc wf, ni_le (by omega) (by omega)] at z
          omega
        have hkx : k < ix (gI (ct 0) 0 7) := hkm
        have s120 : (120 : Int32) + ni k = ni (120 + k) := lni_add 120 k
        have s150 : (150 : Int32) + ni k = ni (150 + k) := lni_add 150 k
        have i120 : ix (ni (120 + k)) = 120 + k := ix_ni (by omega)
        have i150 : ix (ni (150 + k)) = 150 + k := ix_ni (by omega)
        have w2 : F_X12_whoHas 49 12 (ni k) (wI m 49 0 0) = some (ownersOf (ct 0) 2 k, wI m 49 0 0) := by
          unfold F_X12_whoHas
          rw [lt9_e, lt9_e, ← wh_own wf (.inl rfl)]
          exact r_whoL (f := 12) g0 rc.2.1 p.1 (by omega) hk (fun i hi => by rw [RRg rr (by have := p.1; omega)]) n 0 NF 0 (by omega) (by have := p.1; unfold NF; omega)
        have w3 : F_X12_whoHas 49 18 (ni k) (wI m 49 0 0) = some (ownersOf (ct 0) 3 k, wI m 49 0 0) := by
          unfold F_X12_whoHas
          rw [lt9_e, lt9_e, ← wh_own wf (.inr rfl)]
          exact r_whoL (f := 18) g0 rc.2.1 p.1 (by omega) hk (fun i hi => by rw [RRk rr (by have := p.1; omega)]) n 0 NF 0 (by omega) (by have := p.1; unfold NF; omega)
        have w4 : F_X12_whoHas 49 24 (ni k) (wI m 49 0 0) = some (gI (ct 0) 10 k, wI m 49 0 0) := by
          unfold F_X12_whoHas
          rw [lt9_e, lt9_e, ← wh_way wf hk]
          exact r_whoL (f := 24) g0 rc.2.1 p.1 (by omega) hk (fun i hi => by rw [RRw rr (by have := p.1; omega) k, decide_eq_true hk, Bool.true_and]) n 0 NF 0 (by omega) (by have := p.1; unfold NF; omega)
        rw [ix_ni (by omega)]
        refine ⟨wI m 49 0 0, ?_, e0, Qr_0 m 0⟩
        unfold F_X12_message msgP
        by_cases z0 : w = 0
        · have z0' := eq_true z0
          simp only [gO49 g, gO49 g0, gd_t, lt9_e, jn_e, bdE wt', ↓i10, ↓i00, bdE b0, bdE aw', bdE b2, gR49_23 g0, oc_s, gK473 g0 (show 187 < 968 by omega), r187, hl', if_true, bdE b4, z0', s120, gA473 g0 (show 120 + k < 968 by omega), i120, RRs rr hk hkx]
        · have z0' := eq_false z0
          by_cases z1 : w = 1
          · have z1' := eq_true z1
            simp only [gO49 g, gO49 g0, gd_t, lt9_e, jn_e, bdE wt', ↓i10, ↓i00, bdE b0, bdE aw', bdE b2, gR49_23 g0, oc_s, gK473 g0 (show 187 < 968 by omega), r187, hl', if_true, if_false, bdE b4, z0', z1', s150, gA473 g0 (show 150 + k < 968 by omega), i150, RRx rr hk hkx]
          · have z1' := eq_false z1
            by_cases z2 : w = 2
            · have z2' := eq_true z2
              simp only [gO49 g, gO49 g0, gd_t, lt9_e, jn_e, bdE wt', ↓i10, ↓i00, bdE b0, bdE aw', bdE b2, gR49_23 g0, oc_s, gK473 g0 (show 187 < 968 by omega), r187, hl', if_true, if_false, bdE b4, z0', z1', z2', bdE w2]
            · have z2' := eq_false z2
              by_cases z3 : w = 3
              · have z3' := eq_true z3
                simp only [gO49 g, gO49 g0, gd_t, lt9_e, jn_e, bdE wt', ↓i10, ↓i00, bdE b0, bdE aw', bdE b2, gR49_23 g0, oc_s, gK473 g0 (show 187 < 968 by omega), r187, hl', if_true, if_false, bdE b4, z0', z1', z2', z3', bdE w3]
              · have z3' := eq_false z3
                simp only [gO49 g, gO49 g0, gd_t, lt9_e, jn_e, bdE wt', ↓i10, ↓i00, bdE b0, bdE aw', bdE b2, gR49_23 g0, oc_s, gK473 g0 (show 187 < 968 by omega), r187, hl', if_true, if_false, bdE b4, z0', z1', z2', z3', bdE w4]
    · rw [if_neg hm]
      rw [decide_eq_false hm, b2i_f] at aw'
      refine ⟨3, rfl, ?_⟩
      unfold F_X12_message
      simp only [gO49 g, gO49 g0, gd_t, lt9_e, jn_e, bdE wt', ↓i10, ↓i00, if_true, bdE b0, bdE aw', bdE b3]
  · rw [if_neg hw]
    rw [decide_eq_false hw, b2i_f] at wt'
    refine ⟨1, rfl, ?_⟩
    unfold F_X12_message
    simp only [gO49 g, gO49 g0, gd_t, lt9_e, jn_e, bdE wt', ↓i10, ↓i00, if_true, bdE b1]
