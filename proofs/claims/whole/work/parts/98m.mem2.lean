/-! L2: calls of a member, with more conditions. -/
theorem qc_knows {n l len : Nat} {cs : Nat → Nat} {bk : List (Nat × Nat)} {y : Nat → Nat} {t : Nat} {pl rf : Int32} {ru : Nat → Int32} {pk ik : Nat} {jk : Nat → Nat} {ct : Nat → St} {B : Nat} {m : Mm} {a b : Int32} (p : IP n l len cs bk pk ik jk ct B) (h : IC n l len cs bk y t pl rf ru pk ik jk ct m) (hN : mN m + 1 < K9) : CA (F_X11_knows 0 a b m) (if mbr n a ∧ mbr n b then .inl (gI (ct 0) 4 (ix a * 6 + ix b)) else .inr 0 : Int32 ⊕ Nat) m := by
  obtain ⟨q, ha, wf, g⟩ := IC_ctx p h
  have h3 := q.2.1
  have c16 := G_16 g
  have hn := p.1
  by_cases hm : mbr n a
  · obtain ⟨i, hi, rfl⟩ := mbr_i hn hm
    have k1 := needM_ok g h3 hn hi
    by_cases hm2 : mbr n b
    · rw [if_pos ⟨hm, hm2⟩]
      obtain ⟨j, hj, rfl⟩ := mbr_i hn hm2
      have k2 := needM_ok g h3 hn hj
      have k3 : rI m (16 + 4) (i * 6 + j) = gI (ct 0) 4 (i * 6 + j) := by rw [rI_o4 16 m (by omega), ha]
      have k4 : ni i * 6 + ni j = ni (i * 6 + j) := by rw [nil_mul, ni_add]
      rw [ix_ni (by omega), ix_ni (by omega)]
      refine ⟨m, ?_, Qf_refl m⟩
      unfold F_X11_knows
      simp only [gO0 g, gd_t, bxL k1, bxL k2, gR0_6 g, oc_s, gO16 g, CSh_lor c16, k4, CSh_o4 c16 (show i * 6 + j < 36 by omega), ix_ni (show i * 6 + j < 2147483648 by omega), k3]
    · rw [if_neg (fun z => hm2 z.2)]
      refine ⟨by omega, 6, by omega, ?_⟩
      unfold F_X11_knows
      simp only [gO0 g, gd_t, bxL k1, bxR (needM_no g h3 hm2 hN)]
  · rw [if_neg (fun z => hm z.1)]
    refine ⟨by omega, 6, by omega, ?_⟩
    unfold F_X11_knows
    simp only [gO0 g, gd_t, bxR (needM_no g h3 hm hN)]
theorem qr_knows {n l len : Nat} {cs : Nat → Nat} {bk : List (Nat × Nat)} {y : Nat → Nat} {t : Nat} {pl rf : Int32} {ru : Nat → Int32} {pk ik : Nat} {jk : Nat → Nat} {ct : Nat → St} {B : Nat} {m : Mm} {a b : Int32} (p : IP n l len cs bk pk ik jk ct B) (g : G m) (h : IR n l len cs bk y t pl rf ru pk ik jk ct m) : RA (F_X12_knows 49 a b m) (if mbr n a ∧ mbr n b then .inl (gI (ct 0) 4 (ix a * 6 + ix b)) else .inr 0 : Int32 ⊕ Nat) hx_L_knows 0 m := by
  have g0 : G (wI m 49 0 0) := G_wI g
  have rc := IR_RC p g0 (IR_0 0 h)
  have rr := IR_now (IR_0 0 h)
  have e0 := w0_0 m
  have im := r_isMem (a := a) g0 rc.2.1
  have im2 := r_isMem (a := b) g0 rc.2.1
  have hn := p.1
  have b0 := bad_f (c := 1) (r := 0) g0 e0
  have b1 : F_X12_bad 49 1 1 0 (wI m 49 0 0) = some (1, bdM m 0 1) := bad_t (k := 0) g (by omega) (by decide)
  by_cases hm : mbr n a
  · rw [decide_eq_true hm, b2i_t] at im
    by_cases hm2 : mbr n b
    · rw [if_pos ⟨hm, hm2⟩]
      rw [decide_eq_true hm2, b2i_t] at im2
      obtain ⟨i, hi, rfl⟩ := mbr_i hn hm
      obtain ⟨j, hj, rfl⟩ := mbr_i hn hm2
      have kk := r_knownOf (a := i) (b := j) (m := wI m 49 0 0) (by omega) (by omega)
      have kl := RRl rr (show i < 6 by omega) (show j < 6 by omega)
      rw [ix_ni (by omega), ix_ni (by omega)]
      refine ⟨wI m 49 0 0, ?_, e0, Qr_0 m 0⟩
      unfold F_X12_knows
      simp only [gO49 g, gO49 g0, gd_t, lt9_e, jn_e, bdE im, bdE im2, ↓i10, ↓i00, if_true, bdE b0, gR49_23 g0, oc_s, bdE kk, gA473 g0 (show 36 + 6 * i + j < 968 by omega), ix_ni (show 36 + 6 * i + j < 2147483648 by omega), kl]
    · rw [if_neg (fun z => hm2 z.2)]
      rw [decide_eq_false hm2, b2i_f] at im2
      refine ⟨1, rfl, ?_⟩
      unfold F_X12_knows
      simp only [gO49 g, gO49 g0, gd_t, lt9_e, jn_e, bdE im, bdE im2, ↓i10, ↓i00, if_true, bdE b1]
  · rw [if_neg (fun z => hm z.1)]
    rw [decide_eq_false hm, b2i_f] at im
    refine ⟨1, rfl, ?_⟩
    unfold F_X12_knows
    simp only [gO49 g, gO49 g0, gd_t, lt9_e, jn_e, bdE im, ↓i10, ↓i00, if_true, bdE b1]
/-! held -/
def heldP (σ : St) (i : Nat) (x : Int32) : Int32 := if 8 ≤ x then -1 else if x < gI σ 5 i then gI σ 6 (i * 8 + ix x) else -1
theorem qc_held {n l len : Nat} {cs : Nat → Nat} {bk : List (Nat × Nat)} {y : Nat → Nat} {t : Nat} {pl rf : Int32} {ru : Nat → Int32} {pk ik : Nat} {jk : Nat → Nat} {ct : Nat → St} {B : Nat} {m : Mm} {a x : Int32} (p : IP n l len cs bk pk ik jk ct B) (h : IC n l len cs bk y t pl rf ru pk ik jk ct m) (hN : mN m + 1 < K9) : CA (F_X11_held 0 a x m) (if mbr n a then (if x < 0 then .inr 1 else .inl (heldP (ct 0) (ix a) x)) else .inr 0 : Int32 ⊕ Nat) m := by
  obtain ⟨q, ha, wf, g⟩ := IC_ctx p h
  have h3 := q.2.1
  have c16 := G_16 g
  have hn := p.1
  by_cases hm : mbr n a
  · rw [if_pos hm]
    obtain ⟨i, hi, rfl⟩ := mbr_i hn hm
    rw [ix_ni (by omega)]
    have k1 := needM_ok g h3 hn hi
    by_cases hx : x < 0
    · rw [if_pos hx]
      refine ⟨by omega, 6, by omega, ?_⟩
      have k2 := need_f g hN
      rw [b2i_f] at k2
      have hx' := eq_true hx
      unfold F_X11_held
      simp only [gO0 g, gd_t, bxL k1, jn_e, hx', if_true, bxR k2]
    · rw [if_neg hx]
      have k2 : F_X11_need 0 1 m = some (.inl (), m) := c_need1
      have hx' := eq_false hx
      have k3 : rI m (16 + 5) i = gI (ct 0) 5 i := by rw [rI_o5 16 m (by omega), ha]
      refine ⟨m, ?_, Qf_refl m⟩
      unfold F_X11_held heldP
      by_cases h8 : (8 : Int32) ≤ x
      · have h8' := eq_true h8
        simp only [gO0 g, gd_t, bxL k1, jn_e, hx', if_false, bxL k2, h8', if_true]
      · have h8' := eq_false h8
        obtain ⟨j, hj, rfl⟩ := ni_of hx (n := 8) (by omega) h8
        have k4 : ni i * 8 + ni j = ni (i * 8 + j) := by rw [nil_mul, ni_add]
        have k5 : rI m (16 + 6) (i * 8 + j) = gI (ct 0) 6 (i * 8 + j) := by rw [rI_o6 16 m (by omega), ha]
        by_cases hl : ni j < gI (ct 0) 5 i
        · have hl' := eq_true hl
          simp only [gO0 g, gd_t, bxL k1, jn_e, hx', if_false, bxL k2, h8', gR0_6 g, oc_s, gO16 g, CSh_hec c16, CSh_hel c16, CSh_o5 c16 (show i < 6 by omega), ix_ni (show i < 2147483648 by omega), k3, hl', if_true, k4, CSh_o6 c16 (show i * 8 + j < 48 by omega), ix_ni (show i * 8 + j < 2147483648 by omega), k5, ix_ni (show j < 2147483648 by omega)]
        · have hl' := eq_false hl
          simp only [gO0 g, gd_t, bxL k1, jn_e, hx', if_false, bxL k2, h8', gR0_6 g, oc_s, gO16 g, CSh_hec c16, CSh_hel c16, CSh_o5 c16 (show i < 6 by omega), ix_ni (show i < 2147483648 by omega), k3, hl']
  · rw [if_neg hm]
    refine ⟨by omega, 6, by omega, ?_⟩
    unfold F_X11_held
    simp only [gO0 g, gd_t, bxR (needM_no g h3 hm hN)]
theorem qr_held {n l len : Nat} {cs : Nat → Nat} {bk : List (Nat × Nat)} {y : Nat → Nat} {t : Nat} {pl rf : Int32} {ru : Nat → Int32} {pk ik : Nat} {jk : Nat → Nat} {ct : Nat → St} {B : Nat} {m : Mm} {a x : Int32} (p : IP n l len cs bk pk ik jk ct B) (g : G m) (h : IR n l len cs bk y t pl rf ru pk ik jk ct m) : RA (F_X12_held 49 a x m) (if mbr n a then (if x < 0 then .inr 1 else .inl (heldP (ct 0) (ix a) x)) else .inr 0 : Int32 ⊕ Nat) hx_L_held 0 m := by
  have g0 : G (wI m 49 0 0) := G_wI g
  have rc := IR_RC p g0 (IR_0 0 h)
  have rr := IR_now (IR_0 0 h)
  have wf : WF n B (ct 0) := p.2.2.2.2.2.2.2 0 (Val_0 _ _ _)
  have e0 := w0_0 m
  have im := r_isMem (a := a) g0 rc.2.1
  have hn := p.1
  have b0 := bad_f (c := 1) (r := 0) g0 e0
  have b1 : F_X12_bad 49 1 1 0 (wI m 49 0 0) = some (1, bdM m 0 1) := bad_t (k := 0) g (by omega) (by decide)
  have b2 := bad_f (c := 2) (r := 1) g0 e0
  have b3 : F_X12_bad 49 1 2 1 (wI m 49 0 0) = some (1, bdM m 1 2) := bad_t (k := 1) g (by omega) (by decide)
  by_cases hm : mbr n a
  · rw [if_pos hm]
    rw [decide_eq_true hm, b2i_t] at im
    obtain ⟨i, hi, rfl⟩ := mbr_i hn hm
    rw [ix_ni (by omega)]
    by_cases hx : x < 0
    · rw [if_pos hx]
      refine ⟨2, rfl, ?_⟩
      have hx' : ((0 : Int32) ≤ x) = False := eq_false (Int32.not_le.mpr hx)
      unfold F_X12_held
      simp only [gO49 g, gO49 g0, gd_t, lt9_e, jn_e, bdE im, ↓i10, ↓i00, if_true, bdE b0, hx', if_false, bdE b3]
    · rw [if_neg hx]
      have hx' : ((0 : Int32) ≤ x) = True := eq_true (Int32.not_lt.mp hx)
      obtain ⟨e, he, hh, -⟩ := wf.2.1.2.2.2.2.2.2.2.1 i (by omega)
      have k3 : (30 : Int32) + ni i = ni (30 + i) := lni_add 30 i
      have k4 : rI (wI m 49 0 0) 473 (30 + i) = ni e := (RRh rr (by omega)).trans hh
      refine ⟨wI m 49 0 0, ?_, e0, Qr_0 m 0⟩
      unfold F_X12_held heldP
      rw [hh]
      by_cases hl : ni e ≤ x
      · have hl' := eq_true hl
        have ans : (if (8 : Int32) ≤ x then (-1 : Int32) else if x < ni e then gI (ct 0) 6 (i * 8 + ix x) else -1) = -1 := by
          rw [if_neg (show ¬ x < ni e from fun z => absurd hl (Int32.not_le.mpr z))]
          split <;> rfl
        rw [ans]
        simp only [gO49 g, gO49 g0, gd_t, lt9_e, jn_e, bdE im, ↓i10, ↓i00, bdE b0, hx', if_true, bdE b2, gR49_23 g0, oc_s, k3, gA473 g0 (show 30 + i < 968 by omega), ix_ni (show 30 + i < 2147483648 by omega), k4, hl']
      · have hl' := eq_false hl
        obtain ⟨j, hj, rfl⟩ := ni_of hx (n := e) (by omega) hl
        have k5 : (72 : Int32) + 8 * ni i + ni j = ni (72 + 8 * i + j) := by rw [lni_mul, lni_add, ni_add]
        have k6 : rI (wI m 49 0 0) 473 (72 + 8 * i + j) = gI (ct 0) 6 (i * 8 + j) := RRv rr (by omega) (by omega) (by rw [hh, ix_ni (by omega)]; exact hj)
        rw [if_neg (show ¬ (8 : Int32) ≤ ni j from fun z => by rw [show (8 : Int32) = ni 8 from rfl, ni_le (by omega) (by omega)] at z; omega), if_pos (show ni j < ni e by rw [ni_lt (by omega) (by omega)]; exact hj), ix_ni (by omega)]
        simp only [gO49 g, gO49 g0, gd_t, lt9_e, jn_e, bdE im, ↓i10, ↓i00, bdE b0, hx', if_true, bdE b2, gR49_23 g0, oc_s, k3, gA473 g0 (show 30 + i < 968 by omega), ix_ni (show 30 + i < 2147483648 by omega), k4, hl', if_false, k5, gA473 g0 (show 72 + 8 * i + j < 968 by omega), ix_ni (show 72 + 8 * i + j < 2147483648 by omega), k6]
  · rw [if_neg hm]
    rw [decide_eq_false hm, b2i_f] at im
    refine ⟨1, rfl, ?_⟩
    unfold F_X12_held
    simp only [gO49 g, gO49 g0, gd_t, lt9_e, jn_e, bdE im, ↓i10, ↓i00, if_true, bdE b1]
/-! log -/
theorem qc_log {n l len : Nat} {cs : Nat → Nat} {bk : List (Nat × Nat)} {y : Nat → Nat} {t : Nat} {pl rf : Int32} {ru : Nat → Int32} {pk ik : Nat} {jk : Nat → Nat} {ct : Nat → St} {B : Nat} {m : Mm} {a x : Int32} (p : IP n l len cs bk pk ik jk ct B) (h : IC n l len cs bk y t pl rf ru pk ik jk ct m) (hN : mN m + 1 < K9) : CA (F_X11_log 0 a x m) (if mbr n a then (if gI (ct 0) 1 (ix a) ≤ 0 then .inr 2 else if (¬ x < 0 ∧ ¬ 63 < x) ∧ ¬ gI (ct 0) 7 (ix a) ≤ x then .inl (gL (ct 0) 12 (ix a * 64 + ix x)) else .inr 3) else .inr 0 : Int64 ⊕ Nat) m := by
  obtain ⟨q, ha, wf, g⟩ := IC_ctx p h
  have h3 := q.2.1
  have c16 := G_16 g
  have hn := p.1
  by_cases hm : mbr n a
  · rw [if_pos hm]
    obtain ⟨i, hi, rfl⟩ := mbr_i hn hm
    rw [ix_ni (by omega)]
    have k1 := needM_ok g h3 hn hi
    have k3 : rI m (16 + 1) i = gI (ct 0) 1 i := by rw [rI_o1 16 m (by omega), ha]
    have k7 : rI m (16 + 7) i = gI (ct 0) 7 i := by rw [rI_o7 16 m (by omega), ha]
    by_cases hx : gI (ct 0) 1 i ≤ 0
    · rw [if_pos hx]
      refine ⟨by omega, 8, by omega, ?_⟩
      have hx' := eq_true hx
      unfold F_X11_log
      simp only [gO0 g, gd_t, bxL k1, gR0_6 g, oc_s, gO16 g, CSh_age c16, CSh_o1 c16 (show i < 6 by omega), ix_ni (show i < 2147483648 by omega), k3, jn_e, hx', if_true, bxR (needP_f g hN)]
    · rw [if_neg hx]
      have hx' := eq_false hx
      have wt' := wth x 0 63 m
      by_cases hr : ¬ x < 0 ∧ ¬ 63 < x
      · rw [decide_eq_true hr, b2i_t] at wt'
        by_cases hl : gI (ct 0) 7 i ≤ x
        · rw [if_neg (fun z => z.2 hl)]
          have hl' := eq_true hl
          refine ⟨by omega, 6, by omega, ?_⟩
          unfold F_X11_log
          simp only [gO0 g, gd_t, bxL k1, gR0_6 g, oc_s, gO16 g, CSh_age c16, CSh_o1 c16 (show i < 6 by omega), ix_ni (show i < 2147483648 by omega), k3, jn_e, hx', if_false, bxL (needP_t (m := m)), bdE wt', ↓i10, CSh_ent c16, CSh_o7 c16 (show i < 6 by omega), k7, hl', if_true, bxR (needX_f g hN)]
        · rw [if_pos ⟨hr, hl⟩]
          have hl' := eq_false hl
          obtain ⟨j, hj, rfl⟩ := ni_of hr.1 (n := 64) (by omega) (fun z => hr.2 (by
            rw [nx_of hr.1, ni_le (by omega) (ix_B x)] at z
            rw [nx_of hr.1, show (63 : Int32) = ni 63 from rfl, ni_lt (by omega) (ix_B x)]
            omega))
          have k4 : ni i * 64 + ni j = ni (i * 64 + j) := by rw [nil_mul, ni_add]
          have k5 : rL m (16 + 12) (i * 64 + j) = gL (ct 0) 12 (i * 64 + j) := by rw [rI_o12 16 m (by omega), ha]
          refine ⟨m, ?_, Qf_refl m⟩
          unfold F_X11_log
          simp only [gO0 g, gd_t, bxL k1, gR0_6 g, oc_s, gO16 g, CSh_age c16, CSh_o1 c16 (show i < 6 by omega), ix_ni (show i < 2147483648 by omega), k3, jn_e, hx', if_false, bxL (needP_t (m := m)), bdE wt', ↓i10, CSh_ent c16, CSh_o7 c16 (show i < 6 by omega), k7, hl', bxL (needX_t (m := m)), CSh_ery c16, k4, CSh_o12 c16 (show i * 64 + j < 384 by omega), ix_ni (show i * 64 + j < 2147483648 by omega), k5, ix_ni (show j < 2147483648 by omega)]
      · rw [decide_eq_false hr, b2i_f] at wt'
        rw [if_neg (fun z => hr z.1)]
        refine ⟨by omega, 6, by omega, ?_⟩
        unfold F_X11_log
        simp only [gO0 g, gd_t, bxL k1, gR0_6 g, oc_s, gO16 g, CSh_age c16, CSh_o1 c16 (show i < 6 by omega), ix_ni (show i < 2147483648 by omega), k3, jn_e, hx', if_false, bxL (needP_t (m := m)), bdE wt', ↓i00, if_true, bxR (needX_f g hN)]
  · rw [if_neg hm]
    refine ⟨by omega, 6, by omega, ?_⟩
    unfold F_X11_log
    simp only [gO0 g, gd_t, bxR (needM_no g h3 hm hN)]
theorem r_entryOf {a b : Nat} {m : Mm} : F_X12_entryOf (ni a) (ni b) m = some (ni (200 + 2 * (64 * a + b)), m) := by
  unfold F_X12_entryOf
  simp only [lni_mul, lni_add, ni_add]
theorem qr_log {n l len : Nat} {cs : Nat → Nat} {bk : List (Nat × Nat)} {y : Nat → Nat} {t : Nat} {pl rf : Int32} {ru : Nat → Int32} {pk ik : Nat} {jk : Nat → Nat} {ct : Nat → St} {B : Nat} {m : Mm} {a x : Int32} (p : IP n l len cs bk pk ik jk ct B) (g : G m) (h : IR n l len cs bk y t pl rf ru pk ik jk ct m) : RA (F_X12_log 49 a x m) (if mbr n a then (if gI (ct 0) 1 (ix a) ≤ 0 then .inr 2 else if (¬ x < 0 ∧ ¬ 63 < x) ∧ ¬ gI (ct 0) 7 (ix a) ≤ x then .inl (gL (ct 0) 12 (ix a * 64 + ix x)) else .inr 3) else .inr 0 : Int64 ⊕ Nat) hx_L_log 0 m := by
  have g0 : G (wI m 49 0 0) := G_wI g
  have rc := IR_RC p g0 (IR_0 0 h)
  have rr := IR_now (IR_0 0 h)
  have mc := RC_MC rc (.inl rfl : 473 = 473 ∨ 473 = 474)
  have wf : WF n B (ct 0) := p.2.2.2.2.2.2.2 0 (Val_0 _ _ _)
  have e0 := w0_0 m
  have im := r_isMem (a := a) g0 rc.2.1
  have hn := p.1
  have b0 := bad_f (c := 1) (r := 0) g0 e0
  have b1 : F_X12_bad 49 1 1 0 (wI m 49 0 0) = some (1, bdM m 0 1) := bad_t (k := 0) g (by omega) (by decide)
  have b2 := bad_f (c := 2) (r := 2) g0 e0
  have b3 : F_X12_bad 49 1 2 2 (wI m 49 0 0) = some (1, bdM m 2 2) := bad_t (k := 2) g (by omega) (by decide)
  have b4 := bad_f (c := 3) (r := 3) g0 e0
  have b5 : F_X12_bad 49 1 3 3 (wI m 49 0 0) = some (1, bdM m 3 3) := bad_t (k := 3) g (by omega) (by decide)
  by_cases hm : mbr n a
  · rw [if_pos hm]
    rw [decide_eq_true hm, b2i_t] at im
    obtain ⟨i, hi, rfl⟩ := mbr_i hn hm
    rw [ix_ni (by omega)]
    obtain ⟨e, he, hh⟩ := wf.2.1.2.2.2.2.2.2.2.2.1 i (by omega)
    have k3 : (6 : Int32) + ni i = ni (6 + i) := lni_add 6 i
    have k4 := RRo rr (show i < 6 by omega)
    by_cases hx : gI (ct 0) 1 i ≤ 0
    · rw [if_pos hx]
      rw [if_neg (Int32.not_lt.mpr hx)] at k4
      refine ⟨2, rfl, ?_⟩
      unfold F_X12_log
      simp only [gO49 g, gO49 g0, gd_t, lt9_e, jn_e, bdE im, ↓i10, ↓i00, bdE b0, gR49_23 g0, oc_s, k3, gA473 g0 (show 6 + i < 968 by omega), ix_ni (show 6 + i < 2147483648 by omega), k4, if_true, bdE b3]
    · rw [if_neg hx]
      rw [if_pos (Int32.not_le.mp hx), hh] at k4
      have k5 : (ni e = (-1 : Int32)) = False := eq_false (fun z => (ni_ne1 (by omega)).mp z)
      have wt' := inr x 0 (ni e - 1) (wI m 49 0 0)
      rw [hh]
      by_cases hr : ¬ x < 0 ∧ ¬ ni e - 1 < x
      · rw [decide_eq_true hr, b2i_t] at wt'
        have hj : ∃ j, j < e ∧ x = ni j := by
          refine ⟨ix x, ?_, nx_of hr.1⟩
          have z := hr.2
          rw [nx_of hr.1] at z
          by_cases h0 : e = 0
          · exfalso
            subst h0
            apply z
            rw [Int32.lt_iff_toInt_lt, ni_toInt (ix_B x), show (ni 0 - 1).toInt = -1 by decide]
            omega
          · rw [show (1 : Int32) = ni 1 from rfl, ni_sub (by omega), ni_lt (by omega) (ix_B x)] at z
            omega
        obtain ⟨j, hj, rfl⟩ := hj
        have k6 := r_wideE (a := i) (j := j) mc rr (by omega) (by omega) (by rw [hh, ix_ni (by omega)]; exact hj)
        rw [if_pos ⟨⟨hr.1, fun z => by rw [show (63 : Int32) = ni 63 from rfl, ni_lt (by omega) (by omega)] at z; omega⟩, fun z => by rw [ni_le (by omega) (by omega)] at z; omega⟩, ix_ni (by omega)]
        refine ⟨wI m 49 0 0, ?_, e0, Qr_0 m 0⟩
        unfold F_X12_log
        simp only [gO49 g, gO49 g0, gd_t, lt9_e, jn_e, bdE im, ↓i10, ↓i00, if_true, bdE b0, gR49_23 g0, oc_s, k3, gA473 g0 (show 6 + i < 968 by omega), ix_ni (show 6 + i < 2147483648 by omega), k4, k5, if_false, bdE b2, bdE wt', bdE b4, bdE (r_entryOf (a := i) (b := j) (m := wI m 49 0 0)), bdE k6]
      · rw [decide_eq_false hr, b2i_f] at wt'
        rw [if_neg (fun z => hr ⟨z.1.1, fun w => ?_⟩)]
        · refine ⟨3, rfl, ?_⟩
          unfold F_X12_log
          simp only [gO49 g, gO49 g0, gd_t, lt9_e, jn_e, bdE im, ↓i10, ↓i00, if_true, bdE b0, gR49_23 g0, oc_s, k3, gA473 g0 (show 6 + i < 968 by omega), ix_ni (show 6 + i < 2147483648 by omega), k4, k5, if_false, bdE b2, bdE wt', bdE b5]
        · have z2 := z.2
          rw [nx_of z.1.1] at z2 w
          rw [ni_le (by omega) (ix_B x)] at z2
          rw [show (1 : Int32) = ni 1 from rfl, ni_sub (by omega), ni_lt (by omega) (ix_B x)] at w
          omega
  · rw [if_neg hm]
    rw [decide_eq_false hm, b2i_f] at im
    refine ⟨1, rfl, ?_⟩
    unfold F_X12_log
    simp only [gO49 g, gO49 g0, gd_t, lt9_e, jn_e, bdE im, ↓i10, ↓i00, if_true, bdE b1]
