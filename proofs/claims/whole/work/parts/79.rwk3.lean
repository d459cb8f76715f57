/-! L2: the reference's reading of a work: steps and levels. -/
theorem r_J33 {x : Nat → Nat} {n N a o kw : Nat} {acc : List Q4} {fR : Nat → Mm → Option (Unit × Mm)} {M : Mm} (hN : N ≤ 6) (r : RW x n N a o acc.length acc M) (hh : acc.length < 80) (hkw : kw ≤ 10) :
    ∃ M9, RW x n N (wE x n a) o (acc.length + 1) acc M9 ∧ rI M9 (392 + 1 + acc.length) 0 = ni kw ∧ Hq M M9 ∧
      rJ33 fR (ni kw) M = (if 7 ≤ kw then rJ91 fR (ni kw) (392 + 1 + acc.length) M9 else bd (F_X12_number 49 0 (ni N - 1) M9) fun r36 m37 => gd (okA m37 100 (392 + 1 + acc.length) (1 : Int32)) (rJ91 fR (ni kw) (392 + 1 + acc.length) (wI m37 (392 + 1 + acc.length) 1 r36))) := by
  have g := r.1.1
  obtain ⟨m5, s1, s2, s3⟩ := r_skipWord r.1 r.2.1 r.2.2.1
  have hw := wE_le (x := x) r.2.2.1
  have r5 := RW_s r s2 s3 hw.2
  have g5 := r5.1.1
  have h22 := r5.2.2.2.2.2.1
  obtain ⟨r6, q6⟩ := RW_c (j := 22) (v := ni (acc.length + 1)) r5 (by omega)
  rw [ix_ni (by omega)] at r6 q6
  simp only [Nat.reduceEqDiff, if_false, if_true] at r6
  obtain ⟨r7, q7⟩ := RW_r (h := acc.length) (j := 0) (v := ni kw) r6 (Nat.le_refl _) hh
  have g7 := r7.1.1
  have h53 := r7.2.2.2.2.2.2.2
  refine ⟨_, r7, by rw [rIw, uf_at], Hq_trans (Hq_trans (Rs_Hq s2) q6) q7, ?_⟩
  have e22 : rI m5 49 22 + 1 = ni (acc.length + 1) := by
    rw [h22]
    exact ni_add _ 1
  have g6 := r6.1.1
  have a1 : okA m5 106 392 (rI m5 49 22) = true := by
    rw [h22]
    exact gA392 g5 hh
  have a2 : rR m5 392 (ix (rI m5 49 22)) = some (392 + 1 + acc.length) := by
    rw [h22, ix_ni (by omega)]
    exact gF392 g5 hh
  have a3 : okA (wI m5 49 22 (ni (acc.length + 1))) 100 (392 + 1 + acc.length) (0 : Int32) = true := row_k (j := 0) g6 hh (show 0 < 4 by omega)
  have k7 : ((7 : Int32) ≤ ni kw) = (7 ≤ kw) := by
    rw [show (7 : Int32) = ni 7 from rfl]
    exact propext (ni_le (by omega) (by omega))
  unfold rJ33
  rw [gO49 g, gd_t, if_pos r.2.2.2.1, gd_t, bdE s1, gO49 g5, gd_t, gR49_21 g5, oc_s, gd_t, a1, gd_t, a2, oc_s, gd_t, gd_t, e22, a3, gd_t, ix0']
  simp only [k7, gO49 g7, gd_t, gR49_12 g7, oc_s, gK53 (i := 0) g7 (by omega), h53, ix1]
theorem r_rstepB {x : Nat → Nat} {n N k : Nat} {S : List Q4 → Nat → SR} {fR : Nat → Mm → Option (Unit × Mm)} (hn : n ≤ 150) (hN : N ≤ 6) (hk : k ≤ 6) (hp : PreP S) (hI : 0 < k → ∃ S', S = stsP x n N false S' (k - 1) 151 ∧ HSp x n N (6 - k + 1) (stqP x n N S' (k - 1)) fR) :
    HSp x n N (6 - k) (stqP x n N S k) (B_X12_readsStep fR) := by
  intro acc a m r hbb hl
  obtain ⟨t, h4, han, h5, h8, h22, wq, h53⟩ := id r
  have g := t.1
  obtain ⟨m1, s1, s2, s3⟩ := r_stepHere t h4 h5 han hbb
  have r1 := RW_s r s2 s3 han
  have g1 := r1.1.1
  have hle := kwS_le x n a
  have n1 : ((1 : Int32) = 0) = False := o10
  unfold stqP stP
  by_cases q11 : kwS x n a = 11
  · rw [if_pos q11]
    rw [if_pos q11] at s1
    refine ⟨fun acc' e z => (by cases z), fun kk p z => ?_⟩
    cases z
    obtain ⟨m2, u1, u2⟩ := r_wrong (n := n) (k := 1) (p := a) g1 r1.2.2.2.1 s3 han
    have re := RE_f r1.1 u2 (by omega) (by omega)
    refine ⟨m2, ?_, Hq_trans (Rs_Hq s2) (Rf_Hq u2), re⟩
    rw [ni_1] at u1
    rw [rs_head]
    have e10 : ((-1 : Int32) = 10) = False := by decide
    unfold rJ19 rJ33
    simp only [gO49 g, gO49 g1, gO49 re.1.1, gd_t, bdE s1, if_true, s3, bdE u1, e10, if_false, RE_5 re]
  · rw [if_neg q11]
    rw [if_neg q11] at s1
    obtain ⟨hL, hw4⟩ := kwS_W q11
    have hw := wE_le (x := x) han
    have hm1 : (ni (kwS x n a) = (-1 : Int32)) = False := eq_false (fun z => (ni_ne1 (by omega)).mp z)
    have ek : ∀ v : Nat, v < 11 → (ni (kwS x n a) = ni v) = (kwS x n a = v) := fun v hv => propext (ni_eq (by omega) (by omega))
    have ek10 := ek 10 (by omega)
    have ek7 := ek 7 (by omega)
    have ek0 := ek 0 (by omega)
    rw [show ni 10 = 10 from rfl] at ek10
    rw [show ni 7 = 7 from rfl] at ek7
    rw [show ni 0 = 0 from rfl] at ek0
    have hh : acc.length < 80 := by omega
    have head : ∀ X, rJ19 fR (ni (kwS x n a)) m1 = X → B_X12_readsStep fR 49 m = X := by
      intro X hX
      rw [← hX, rs_head]
      simp only [gO49 g, gd_t, bdE s1, hm1, if_false]
    by_cases q10 : kwS x n a = 10
    · rw [if_pos q10]
      have q10' := eq_true q10
      obtain ⟨o1, o2⟩ := rw_opens r1 (by omega)
      by_cases qk : k = 0
      · rw [if_pos qk]
        refine ⟨fun acc' e z => (by cases z), fun kk p z => ?_⟩
        cases z
        obtain ⟨m2, u1, u2, u3⟩ := o1 (by omega)
        refine ⟨m2, head _ ?_, Hq_trans (Rs_Hq s2) u3, u2⟩
        unfold rJ19
        simp only [ek10, q10', if_true, gO49 g1, gd_t, bdE u1]
      · rw [if_neg qk]
        obtain ⟨m2, u1, u2, u3⟩ := o2 (by omega)
        obtain ⟨M9, r9, e90, h9, eJ⟩ := r_J33 (fR := fR) (kw := kwS x n a) hN u2 hh (by omega)
        have g9 := r9.1.1
        have q9 := Hq_trans (Hq_trans (Rs_Hq s2) u3) h9
        rw [if_pos (show 7 ≤ kwS x n a by omega)] at eJ
        obtain ⟨S', hS', hF⟩ := hI (by omega)
        have head2 : ∀ X, rJ122 fR 10 (392 + 1 + acc.length) M9 = X → B_X12_readsStep fR 49 m = X := by
          intro X hX
          refine head X ?_
          unfold rJ19
          have n0 : ¬ kwS x n a = 0 := by omega
          have n7 : ¬ kwS x n a = 7 := by omega
          simp only [ek10, q10', if_true, gO49 g1, gd_t, bdE u1, n1, if_false]
          rw [eJ]
          unfold rJ91 rJ106
          simp only [ek0, n0, if_false, ek7, n7]
          rw [q10]
          exact hX
        obtain ⟨w1, w2⟩ := rw_num (lo := 0) (h := 61) (hi := 60) r9 (by decide) (by omega) (by omega)
        rw [ni_0] at w1 w2
        -- the end, at a fault
        have bad : ∀ (kk p : Nat) (M : Mm), RE x n kk p M → Hq m M → ∃ m', (gd (okO M 49 12) (bd (F_X12_sign 49 (93 : Int32) M) fun r26 m27 => gd (okO m27 49 12) (gd (okO m27 49 12) (rJ195 (392 + 1 + acc.length) (wI m27 49 8 ((rI m27 49 8) - (1 : Int32))))))) = some ((), m') ∧ Hq m m' ∧ RE x n kk p m' := by
          intro kk p M hM qM
          have gM := hM.1.1
          obtain ⟨v1, v2⟩ := RE_o (v := rI M 49 8 - 1) hM
          obtain ⟨m', y1, y2, y3⟩ := r_J195f v1 hh
          refine ⟨m', ?_, Hq_trans (Hq_trans qM v2) y3, y2⟩
          simp only [gO49 gM, gd_t, bdE (r_sign0 (k := 93) gM (RE_5 hM)), y1]
        unfold agP
        cases p1 : numP x n (wE x n a) 0 61 with
        | inr f =>
          obtain ⟨kk, p⟩ := f
          refine ⟨fun acc' e z => (by cases z), fun kk p z => ?_⟩
          cases z
          obtain ⟨M10, v1, v2, v3⟩ := w2 _ _ p1
          have g10 := v2.1.1
          obtain ⟨v4, v5⟩ := RE_r (h := acc.length) (j := 1) (v := 0) v2 hh
          have g11 := v4.1.1
          obtain ⟨a', ha', h4'⟩ := v4.2.2.2.2.2
          obtain ⟨M12, b1, b2, b3⟩ := r_blanks v4.1 h4' ha'
          have hb' := blk_le (x := x) ha'
          have re := RE_Rs v4 b2 b3 hb'.2
          obtain ⟨m', y1, y2, y3⟩ := bad kk p M12 re (Hq_trans (Hq_trans (Hq_trans q9 v3) v5) (Rs_Hq b2))
          refine ⟨m', head2 _ ?_, y2, y3⟩
          unfold rJ122
          rw [if_pos rfl, gO49 g9, gd_t, bdE v1, row_k g10 hh (show 1 < 4 by omega), gd_t, ix1, gO49 g11, gd_t, bdE (r_sign0 (k := 91) g11 (RE_5 v4)), gO49 g11, gd_t, bdE b1, show NF = 99999 + 1 from rfl, L_X12_readsStep_148]
          rw [gO49 re.1.1] at y1
          rw [gO49 re.1.1, gd_t, if_neg (RE_5 re)]
          exact y1
        | inl f =>
          obtain ⟨v, e1⟩ := f
          obtain ⟨M10, v1, v2, v3, v4, v5⟩ := w1 _ _ p1
          have g10 := v3.1.1
          obtain ⟨v6, v7⟩ := RW_r (h := acc.length) (j := 1) (v := ni v) v3 (Nat.le_refl _) hh
          have g11 := v6.1.1
          have row10 : rI M10 (392 + 1 + acc.length) = rI M9 (392 + 1 + acc.length) := (v2.1.1 _ (by omega)).1
          have v8 : RW x n N e1 (6 - k + 1) (acc ++ [(10, v, 0, 0)]).length (acc ++ [(10, v, 0, 0)]) (wI M10 (392 + 1 + acc.length) 1 (ni v)) := by
            obtain ⟨y1, y2, y3, y4, y5, y6, y7, y8⟩ := v6
            refine ⟨y1, y2, y3, y4, y5, by rw [len_q]; exact y6, WQ_add y7 ⟨?_, fun _ _ => ?_, fun z => absurd z (show ¬ (10 : Nat) = 0 by decide), fun z => absurd rfl z, fun _ z => absurd rfl z⟩, y8⟩
            · rw [rIw, uf_ne (by omega), row10, e90, q10]
            · rw [rIw, uf_at]
          have q11' := Hq_trans (Hq_trans q9 (Rs_Hq v2)) v7
          obtain ⟨s5, s6⟩ := rw_sg (cc := 91) v8 (by omega)
          rw [show ni 91 = 91 from rfl] at s5 s6
          dsimp only
          cases p2 : sgnP x n e1 91 with
          | inr f =>
            obtain ⟨kk, p⟩ := f
            refine ⟨fun acc' e z => (by cases z), fun kk p z => ?_⟩
            cases z
            obtain ⟨M12, x1, x2, x3⟩ := s6 _ _ p2
            have g12 := x2.1.1
            obtain ⟨a', ha', h4'⟩ := x2.2.2.2.2.2
            obtain ⟨M13, b1, b2, b3⟩ := r_blanks x2.1 h4' ha'
            have hb' := blk_le (x := x) ha'
            have re := RE_Rs x2 b2 b3 hb'.2
            obtain ⟨m', y1, y2, y3⟩ := bad kk p M13 re (Hq_trans (Hq_trans q11' x3) (Rs_Hq b2))
            refine ⟨m', head2 _ ?_, y2, y3⟩
            unfold rJ122
            rw [if_pos rfl, gO49 g9, gd_t, bdE v1, row_k g10 hh (show 1 < 4 by omega), gd_t, ix1, gO49 g11, gd_t, bdE x1, gO49 g12, gd_t, bdE b1, show NF = 99999 + 1 from rfl, L_X12_readsStep_148]
            rw [gO49 re.1.1] at y1
            rw [gO49 re.1.1, gd_t, if_neg (RE_5 re)]
            exact y1
          | inl e2 =>
            obtain ⟨M12, x1, x2, x3, x4⟩ := s5 _ p2
            have g12 := x3.1.1
            have he2 := x3.2.2.1
            obtain ⟨M13, b1, b2, b3⟩ := r_blanks x3.1 x3.2.1 he2
            have hb2 := blk_le (x := x) he2
            have r13 := RW_s x3 b2 b3 hb2.2
            have q13 := Hq_trans (Hq_trans q11' (Rs_Hq x2)) (Rs_Hq b2)
            obtain ⟨l1, l2⟩ := r_stsL (v2 := 392 + 1 + acc.length) (K := fun v0 v2 m => gd (okO m v0 12) (bd (F_X12_sign v0 (93 : Int32) m) fun r26 m27 => gd (okO m27 v0 12) (gd (okO m27 v0 12) (gd (okO (wI m27 v0 8 ((rI m27 v0 8) - (1 : Int32))) v0 12) (gd (okA (wI m27 v0 8 ((rI m27 v0 8) - (1 : Int32))) 100 v2 (3 : Int32)) (gd (okO (wI (wI m27 v0 8 ((rI m27 v0 8) - (1 : Int32))) v2 (ix (3 : Int32)) (rI (wI m27 v0 8 ((rI m27 v0 8) - (1 : Int32))) v0 22)) v0 12) (bd (F_X12_sign v0 (59 : Int32) (wI (wI m27 v0 8 ((rI m27 v0 8) - (1 : Int32))) v2 (ix (3 : Int32)) (rI (wI m27 v0 8 ((rI m27 v0 8) - (1 : Int32))) v0 22))) fun _ m12 => some ((), m12)))))))) hn hF NF 151 (acc ++ [(10, v, 0, 0)]) (blk x n e2) M13 (by unfold NF; omega) (by omega) r13 (blk_blk he2) (by rw [len_q]; omega)
            have hSe : S (acc ++ [(10, v, 0, 0)]) e2 = stsP x n N false S' (k - 1) 151 (acc ++ [(10, v, 0, 0)]) (blk x n e2) := by
              rw [hS', stsP, stsP, blk_blk he2]
            have pre2 : ∀ X, L_X12_readsStep_148 fR (fun v0 v2 m => gd (okO m v0 12) (bd (F_X12_sign v0 (93 : Int32) m) fun r26 m27 => gd (okO m27 v0 12) (gd (okO m27 v0 12) (gd (okO (wI m27 v0 8 ((rI m27 v0 8) - (1 : Int32))) v0 12) (gd (okA (wI m27 v0 8 ((rI m27 v0 8) - (1 : Int32))) 100 v2 (3 : Int32)) (gd (okO (wI (wI m27 v0 8 ((rI m27 v0 8) - (1 : Int32))) v2 (ix (3 : Int32)) (rI (wI m27 v0 8 ((rI m27 v0 8) - (1 : Int32))) v0 22)) v0 12) (bd (F_X12_sign v0 (59 : Int32) (wI (wI m27 v0 8 ((rI m27 v0 8) - (1 : Int32))) v2 (ix (3 : Int32)) (rI (wI m27 v0 8 ((rI m27 v0 8) - (1 : Int32))) v0 22))) fun _ m12 => some ((), m12)))))))) NF 49 (392 + 1 + acc.length) M13 = X → B_X12_readsStep fR 49 m = X := by
              intro X hX
              refine head2 X ?_
              unfold rJ122
              rw [if_pos rfl, gO49 g9, gd_t, bdE v1, row_k g10 hh (show 1 < 4 by omega), gd_t, ix1, gO49 g11, gd_t, bdE x1, gO49 g12, gd_t, bdE b1]
              exact hX
            dsimp only
            rw [hSe]
            cases p3 : stsP x n N false S' (k - 1) 151 (acc ++ [(10, v, 0, 0)]) (blk x n e2) with
            | inr f =>
              obtain ⟨kk, p⟩ := f
              refine ⟨fun acc' e z => (by cases z), fun kk p z => ?_⟩
              cases z
              obtain ⟨M14, z1, z2, z3⟩ := l2 _ _ p3
              obtain ⟨m', y1, y2, y3⟩ := bad kk p M14 z3 (Hq_trans q13 z2)
              exact ⟨m', pre2 _ (z1.trans y1), y2, y3⟩
            | inl f =>
              obtain ⟨acc2, e3⟩ := f
              obtain ⟨M14, z1, z2, z3, z4, z5⟩ := l1 _ _ p3
              have g14 := z3.1.1
              have q14 := Hq_trans q13 z2
              have pr := hp (acc ++ [(10, v, 0, 0)]) (blk x n e2) acc2 e3 (by rw [hS']; exact p3)
              rw [len_q] at pr
              have hlen2 : acc2.length < 80 := by
                have := z3.2.2.1
                omega
              have gd2 : acc2.getD acc.length q0 = (10, v, 0, 0) := by
                rw [pr.2 _ (by omega), getD_s, if_pos rfl]
              obtain ⟨s7, s8⟩ := rw_sg (cc := 93) z3 (by omega)
              rw [show ni 93 = 93 from rfl] at s7 s8
              dsimp only
              cases p4 : sgnP x n e3 93 with
              | inr f =>
                obtain ⟨kk, p⟩ := f
                refine ⟨fun acc' e z => (by cases z), fun kk p z => ?_⟩
                cases z
                obtain ⟨M15, y1, y2, y3⟩ := s8 _ _ p4
                have g15 := y2.1.1
                obtain ⟨v1', v2'⟩ := RE_o (v := rI M15 49 8 - 1) y2
                obtain ⟨m', x1', x2', x3'⟩ := r_J195f v1' hh
                refine ⟨m', pre2 _ (z1.trans ?_), Hq_trans (Hq_trans (Hq_trans q14 y3) v2') x3', x2'⟩
                rw [gO49 g14, gd_t, bdE y1, gO49 g15, gd_t, gd_t]
                exact x1'
              | inl e4 =>
                obtain ⟨M15, y1, y2, y3, y4⟩ := s7 _ p4
                have g15 := y3.1.1
                have o8 := y3.2.2.2.2.1
                have eo : rI M15 49 8 - 1 = ni (6 - k) := by
                  rw [o8]
                  exact (ni_sub (a := 6 - k + 1) (b := 1) (by omega)).trans (by rw [Nat.add_sub_cancel])
                obtain ⟨c1, c2⟩ := RW_c (j := 8) (v := ni (6 - k)) y3 (by omega)
                rw [ix_ni (by omega)] at c1 c2
                simp only [Nat.reduceEqDiff, if_false, if_true] at c1
                rw [← eo] at c1 c2
                have g16 := c1.1.1
                have h22' := c1.2.2.2.2.2.1
                -- the place behind
                have c3 : RW x n N e4 (6 - k) (acc2.set acc.length (10, v, 0, acc2.length)).length (acc2.set acc.length (10, v, 0, acc2.length)) (wI (wI M15 49 8 (rI M15 49 8 - 1)) (392 + 1 + acc.length) 3 (rI (wI M15 49 8 (rI M15 49 8 - 1)) 49 22)) ∧ Hq (wI M15 49 8 (rI M15 49 8 - 1)) (wI (wI M15 49 8 (rI M15 49 8 - 1)) (392 + 1 + acc.length) 3 (rI (wI M15 49 8 (rI M15 49 8 - 1)) 49 22)) := by
                  obtain ⟨d1, d2, d3, d4, d5, d6, d7, d8⟩ := c1
                  have q : Hq (wI M15 49 8 (rI M15 49 8 - 1)) (wI (wI M15 49 8 (rI M15 49 8 - 1)) (392 + 1 + acc.length) 3 (rI (wI M15 49 8 (rI M15 49 8 - 1)) 49 22)) := ⟨Fm_wI (Fm_refl _ _) (.inr (by omega)), fun j _ _ _ _ _ => by rw [rIw_ne (by omega)]⟩
                  refine ⟨⟨TR_h d1 q, ?_, d3, ?_, ?_, ?_, fun i hi => ?_, ?_⟩, q⟩
                  · rw [rIw_ne (by omega)]
                    exact d2
                  · rw [rIw_ne (by omega)]
                    exact d4
                  · rw [rIw_ne (by omega)]
                    exact d5
                  · rw [rIw_ne (by omega), List.length_set]
                    exact d6
                  · rw [List.length_set] at hi
                    rw [getD_set _ _ _ _ (by omega)]
                    have dd := d7 i hi
                    by_cases ei : i = acc.length
                    · rw [if_pos ei]
                      subst ei
                      rw [gd2] at dd
                      refine ⟨?_, fun _ _ => ?_, fun z => absurd z (show ¬ (10 : Nat) = 0 by decide), fun z => absurd rfl z, fun _ _ => ?_⟩
                      · rw [rIw, uf_ne (by omega)]
                        exact dd.1
                      · rw [rIw, uf_ne (by omega)]
                        exact dd.2.1 (show ¬ (10 : Nat) = 8 by decide) (show ¬ (10 : Nat) = 9 by decide)
                      · rw [rIw, uf_at, h22']
                    · rw [if_neg ei, rIw_ne (by omega)]
                      exact dd
                  · rw [rIw_ne (by omega)]
                    exact d8
                obtain ⟨c4, c5⟩ := c3
                have g17 := c4.1.1
                obtain ⟨s9, s10⟩ := rw_sg (cc := 59) c4 (by omega)
                rw [show ni 59 = 59 from rfl] at s9 s10
                have q17 := Hq_trans (Hq_trans (Hq_trans q14 (Rs_Hq y2)) c2) c5
                have tail : ∀ X, (bd (F_X12_sign 49 (59 : Int32) (wI (wI M15 49 8 (rI M15 49 8 - 1)) (392 + 1 + acc.length) 3 (rI (wI M15 49 8 (rI M15 49 8 - 1)) 49 22))) fun _ m12 => some ((), m12)) = X → B_X12_readsStep fR 49 m = X := by
                  intro X hX
                  refine pre2 X (z1.trans ?_)
                  rw [gO49 g14, gd_t, bdE y1, gO49 g15, gd_t, gd_t, gO49 g16, gd_t, row_k g16 hh (show 3 < 4 by omega), gd_t, ix3, gO49 g17, gd_t]
                  exact hX
                dsimp only
                cases p5 : sgnP x n e4 59 with
                | inr f =>
                  obtain ⟨kk, p⟩ := f
                  refine ⟨fun acc' e z => (by cases z), fun kk p z => ?_⟩
                  cases z
                  obtain ⟨M18, t1, t2, t3⟩ := s10 _ _ p5
                  exact ⟨M18, tail _ (by rw [bdE t1]), Hq_trans q17 t3, t2⟩
                | inl e5 =>
                  obtain ⟨M18, t1, t2, t3, t4⟩ := s9 _ p5
                  refine ⟨fun acc' e z => ?_, fun kk p z => (by cases z)⟩
                  cases z
                  exact ⟨M18, tail _ (by rw [bdE t1]), Hq_trans q17 (Rs_Hq t2), t3, by omega, by rw [List.length_set]; omega⟩
    · rw [if_neg q10]
      have n10 : ¬ ni (kwS x n a) = (10 : Int32) := by rw [ek10]; exact q10
      obtain ⟨M9, r9, e90, h9, eJ⟩ := r_J33 (fR := fR) (kw := kwS x n a) hN r1 hh (by omega)
      have g9 := r9.1.1
      have q9 := Hq_trans (Rs_Hq s2) h9
      have head2 : ∀ X, (if 7 ≤ kwS x n a then rJ91 fR (ni (kwS x n a)) (392 + 1 + acc.length) M9 else bd (F_X12_number 49 0 (ni N - 1) M9) fun r36 m37 => gd (okA m37 100 (392 + 1 + acc.length) (1 : Int32)) (rJ91 fR (ni (kwS x n a)) (392 + 1 + acc.length) (wI m37 (392 + 1 + acc.length) 1 r36))) = X → B_X12_readsStep fR 49 m = X := by
        intro X hX
        refine head X ?_
        unfold rJ19
        rw [if_neg n10, eJ]
        exact hX
      -- the end of a good step
      have endg : ∀ (q : Q4) (e : Nat) (M : Mm), RW x n N e (6 - k) (acc.length + 1) acc M → Hq m M → rI M (392 + 1 + acc.length) 0 = ni q.1 → (q.1 ≠ 8 → q.1 ≠ 9 → rI M (392 + 1 + acc.length) 1 = ni q.2.1) → (q.1 = 0 → rI M (392 + 1 + acc.length) 2 = ni q.2.2.1) → q.1 ≠ 10 → wE x n a ≤ e → (∀ X, rJ195 (392 + 1 + acc.length) M = X → B_X12_readsStep fR 49 m = X) →
          (∀ acc' e', (match sgnP x n e 59 with
            | .inr q => (.inr q : SR)
            | .inl e2 => .inl (acc ++ [q], e2)) = .inl (acc', e') → ∃ m', B_X12_readsStep fR 49 m = some ((), m') ∧ Hq m m' ∧ RW x n N e' (6 - k) acc'.length acc' m' ∧ a < e' ∧ 4 * acc'.length ≤ e') ∧
          (∀ kk p, (match sgnP x n e 59 with
            | .inr q => (.inr q : SR)
            | .inl e2 => .inl (acc ++ [q], e2)) = .inr (kk, p) → ∃ m', B_X12_readsStep fR 49 m = some ((), m') ∧ Hq m m' ∧ RE x n kk p m') := by
        intro q e M rM qM f0 f1 f2 hq hwe hd
        obtain ⟨z1, z2⟩ := r_J195g (q := q) rM hh ⟨f0, f1, f2⟩ hq
        cases p5 : sgnP x n e 59 with
        | inr f =>
          obtain ⟨kk, p⟩ := f
          refine ⟨fun acc' e z => (by cases z), fun kk p z => ?_⟩
          cases z
          obtain ⟨M18, t1, t2, t3⟩ := z2 _ _ p5
          exact ⟨M18, hd _ t1, Hq_trans qM t3, t2⟩
        | inl e5 =>
          obtain ⟨M18, t1, t2, t3, t4⟩ := z1 _ p5
          refine ⟨fun acc' e z => ?_, fun kk p z => (by cases z)⟩
          cases z
          exact ⟨M18, hd _ t1, Hq_trans qM t3, by rw [len_q]; exact t2, by omega, by rw [len_q]; omega⟩
      -- the end of a bad one
      have endf : ∀ (kk p : Nat) (M : Mm), RE x n kk p M → Hq m M → (∀ X, rJ195 (392 + 1 + acc.length) M = X → B_X12_readsStep fR 49 m = X) → ∃ m', B_X12_readsStep fR 49 m = some ((), m') ∧ Hq m m' ∧ RE x n kk p m' := by
        intro kk p M hM qM hd
        obtain ⟨m', y1, y2, y3⟩ := r_J195f hM hh
        exact ⟨m', hd _ y1, Hq_trans qM y3, y2⟩
      have e122 : ∀ M, rJ122 fR (ni (kwS x n a)) (392 + 1 + acc.length) M = rJ195 (392 + 1 + acc.length) M := by
        intro M
        unfold rJ122
        rw [if_neg n10]
      by_cases q8 : 8 ≤ kwS x n a
      · rw [if_pos q8]
        have n0 : ¬ ni (kwS x n a) = (0 : Int32) := by rw [ek0]; omega
        have n7 : ¬ ni (kwS x n a) = (7 : Int32) := by rw [ek7]; omega
        rw [if_pos (show 7 ≤ kwS x n a by omega)] at head2
        refine endg (kwS x n a, 0, 0, 0) (wE x n a) M9 r9 q9 e90 (fun z1 z2 => (by exfalso; dsimp only at z1 z2; omega)) (fun z => absurd z (by dsimp only; omega)) (by dsimp only; omega) (Nat.le_refl _) (fun X hX => head2 X ?_)
        unfold rJ91 rJ106
        rw [if_neg n0, if_neg n7, e122]
        exact hX
      · rw [if_neg q8]
        -- the first number
        by_cases q7 : kwS x n a = 7
        · rw [if_pos q7]
          have n0 : ¬ ni (kwS x n a) = (0 : Int32) := by rw [ek0]; omega
          have e7 : ni (kwS x n a) = (7 : Int32) := by rw [ek7]; exact q7
          rw [if_pos (show 7 ≤ kwS x n a by omega)] at head2
          obtain ⟨w1, w2⟩ := rw_num (lo := 0) (h := 64) (hi := 63) r9 (by decide) (by omega) (by omega)
          rw [ni_0] at w1 w2
          cases p1 : numP x n (wE x n a) 0 64 with
          | inr f =>
            obtain ⟨kk, p⟩ := f
            refine ⟨fun acc' e z => (by cases z), fun kk p z => ?_⟩
            cases z
            obtain ⟨M10, v1, v2, v3⟩ := w2 _ _ p1
            have g10 := v2.1.1
            obtain ⟨v4, v5⟩ := RE_r (h := acc.length) (j := 1) (v := 0) v2 hh
            refine endf kk p _ v4 (Hq_trans (Hq_trans q9 v3) v5) (fun X hX => head2 X ?_)
            unfold rJ91 rJ106
            rw [if_neg n0, if_pos e7, gO49 g9, gd_t, bdE v1, row_k g10 hh (show 1 < 4 by omega), gd_t, ix1, e122]
            exact hX
          | inl f =>
            obtain ⟨av, e1⟩ := f
            obtain ⟨M10, v1, v2, v3, v4, v5⟩ := w1 _ _ p1
            have g10 := v3.1.1
            obtain ⟨v6, v7⟩ := RW_r (h := acc.length) (j := 1) (v := ni av) v3 (Nat.le_refl _) hh
            have row10 : rI M10 (392 + 1 + acc.length) = rI M9 (392 + 1 + acc.length) := (v2.1.1 _ (by omega)).1
            dsimp only
            rw [if_neg (show ¬ kwS x n a = 0 by omega)]
            refine endg (kwS x n a, av, 0, 0) e1 _ v6 (Hq_trans (Hq_trans q9 (Rs_Hq v2)) v7) (by rw [rIw, uf_ne (by omega), row10]; exact e90) (fun _ _ => by rw [rIw, uf_at]) (fun z => absurd z (by dsimp only; omega)) q10 (by omega) (fun X hX => head2 X ?_)
            unfold rJ91 rJ106
            rw [if_neg n0, if_pos e7, gO49 g9, gd_t, bdE v1, row_k g10 hh (show 1 < 4 by omega), gd_t, ix1, e122]
            exact hX
        · rw [if_neg q7]
          have n7 : ¬ ni (kwS x n a) = (7 : Int32) := by rw [ek7]; exact q7
          rw [if_neg (show ¬ 7 ≤ kwS x n a by omega)] at head2
          obtain ⟨w1, w2⟩ := rw_num (lo := 0) (h := N) (hi := ni N - 1) r9 (hiN hN) (by omega) (by omega)
          rw [ni_0] at w1 w2
          cases p1 : numP x n (wE x n a) 0 N with
          | inr f =>
            obtain ⟨kk, p⟩ := f
            refine ⟨fun acc' e z => (by cases z), fun kk p z => ?_⟩
            cases z
            obtain ⟨M10, v1, v2, v3⟩ := w2 _ _ p1
            have g10 := v2.1.1
            obtain ⟨v4, v5⟩ := RE_r (h := acc.length) (j := 1) (v := 0) v2 hh
            have g11 := v4.1.1
            have q11' := Hq_trans (Hq_trans q9 v3) v5
            by_cases qz : kwS x n a = 0
            · have e0 : ni (kwS x n a) = (0 : Int32) := by rw [ek0]; exact qz
              obtain ⟨v6, v7⟩ := RE_r (h := acc.length) (j := 2) (v := 0) v4 hh
              refine endf kk p _ v6 (Hq_trans q11' v7) (fun X hX => head2 X ?_)
              unfold rJ91 rJ106
              rw [bdE v1, row_k g10 hh (show 1 < 4 by omega), gd_t, if_pos e0, gO49 g11, gd_t, bdE (r_number0 g11 (RE_5 v4)), row_k g11 hh (show 2 < 4 by omega), gd_t, ix2, if_neg n7, e122]
              exact hX
            · have n0 : ¬ ni (kwS x n a) = (0 : Int32) := by rw [ek0]; exact qz
              refine endf kk p _ v4 q11' (fun X hX => head2 X ?_)
              unfold rJ91 rJ106
              rw [bdE v1, row_k g10 hh (show 1 < 4 by omega), gd_t, if_neg n0, if_neg n7, e122]
              exact hX
          | inl f =>
            obtain ⟨av, e1⟩ := f
            obtain ⟨M10, v1, v2, v3, v4, v5⟩ := w1 _ _ p1
            have g10 := v3.1.1
            obtain ⟨v6, v7⟩ := RW_r (h := acc.length) (j := 1) (v := ni av) v3 (Nat.le_refl _) hh
            have g11 := v6.1.1
            have row10 : rI M10 (392 + 1 + acc.length) = rI M9 (392 + 1 + acc.length) := (v2.1.1 _ (by omega)).1
            have q11' := Hq_trans (Hq_trans q9 (Rs_Hq v2)) v7
            dsimp only
            by_cases qz : kwS x n a = 0
            · rw [if_pos qz]
              have e0 : ni (kwS x n a) = (0 : Int32) := by rw [ek0]; exact qz
              obtain ⟨y1, y2⟩ := rw_num (lo := 0) (h := 1000) (hi := 999) v6 (by decide) (by omega) (by omega)
              rw [ni_0] at y1 y2
              cases p2 : numP x n e1 0 1000 with
              | inr f =>
                obtain ⟨kk, p⟩ := f
                refine ⟨fun acc' e z => (by cases z), fun kk p z => ?_⟩
                cases z
                obtain ⟨M12, x1, x2, x3⟩ := y2 _ _ p2
                have g12 := x2.1.1
                obtain ⟨x4, x5⟩ := RE_r (h := acc.length) (j := 2) (v := 0) x2 hh
                refine endf kk p _ x4 (Hq_trans (Hq_trans q11' x3) x5) (fun X hX => head2 X ?_)
                unfold rJ91 rJ106
                rw [bdE v1, row_k g10 hh (show 1 < 4 by omega), gd_t, if_pos e0, gO49 g11, gd_t, bdE x1, row_k g12 hh (show 2 < 4 by omega), gd_t, ix2, if_neg n7, e122]
                exact hX
              | inl f =>
                obtain ⟨vv, e2⟩ := f
                obtain ⟨M12, x1, x2, x3, x4, x5⟩ := y1 _ _ p2
                have g12 := x3.1.1
                obtain ⟨x6, x7⟩ := RW_r (h := acc.length) (j := 2) (v := ni vv) x3 (Nat.le_refl _) hh
                have row12 : rI M12 (392 + 1 + acc.length) = rI (wI M10 (392 + 1 + acc.length) 1 (ni av)) (392 + 1 + acc.length) := (x2.1.1 _ (by omega)).1
                dsimp only
                refine endg (0, av, vv, 0) e2 _ x6 (Hq_trans (Hq_trans q11' (Rs_Hq x2)) x7) (by rw [rIw, uf_ne (by omega), row12, rIw, uf_ne (by omega), row10, e90, qz]) (fun _ _ => by rw [rIw, uf_ne (by omega), row12, rIw, uf_at]) (fun _ => by rw [rIw, uf_at]) (show ¬ (0 : Nat) = 10 by decide) (by omega) (fun X hX => head2 X ?_)
                unfold rJ91 rJ106
                rw [bdE v1, row_k g10 hh (show 1 < 4 by omega), gd_t, if_pos e0, gO49 g11, gd_t, bdE x1, row_k g12 hh (show 2 < 4 by omega), gd_t, ix2, if_neg n7, e122]
                exact hX
            · rw [if_neg qz]
              have n0 : ¬ ni (kwS x n a) = (0 : Int32) := by rw [ek0]; exact qz
              refine endg (kwS x n a, av, 0, 0) e1 _ v6 q11' (by rw [rIw, uf_ne (by omega), row10]; exact e90) (fun _ _ => by rw [rIw, uf_at]) (fun z => absurd z qz) q10 (by omega) (fun X hX => head2 X ?_)
              unfold rJ91 rJ106
              rw [bdE v1, row_k g10 hh (show 1 < 4 by omega), gd_t, if_neg n0, if_neg n7, e122]
              exact hX
