/-! L2: the reference's reading of a law: units, products, sums (2). -/
theorem gd_gd {α : Type} (b : Bool) (x : Option α) : gd b (gd b x) = gd b x := by
  unfold gd
  cases b <;> rfl
theorem kw_L {x : Nat → Nat} {n b : Nat} (h : kwL x n b ≠ 0) : isL x n b = true := by
  cases q : isL x n b
  · exact absurd (kw_no q) h
  · rfl
theorem isL_D {x : Nat → Nat} {n b : Nat} (h : isL x n b = true) : isD x n b = false ∧ ¬ (b < n ∧ x b = 40) := by
  obtain ⟨h1, h2, h3⟩ := isL_x h
  unfold isD
  exact ⟨decide_eq_false (by omega), by omega⟩
theorem r_oneB {x : Nat → Nat} {n k : Nat} {S : List Nat → Nat → LR} {fS fP fO : Nat → Mm → Option (Unit × Mm)} (hn : n ≤ 150) (hk : k ≤ 6) (hS : 0 < k → NSp x n (6 - k + 1) S fS) :
    NSp x n (6 - k) (oneP x n S k) (B_X12_one fS fP fO) := by
  refine ⟨fun m g h5 => ?_, fun acc a s m h hs => ?_⟩
  · unfold B_X12_one
    simp only [gO49 g, gd_t, h5, if_false]
  · obtain ⟨t, h4, han, h5, h8, rn⟩ := id h
    have g := t.1
    have hb := blk_le (x := x) han
    have hbb := blk_blk (x := x) han
    obtain ⟨m1, y1, y2, y3⟩ := r_blanks t h4 han
    have r1 := RS_s h y2 y3 hb.2
    have hs1 : acc.length + s ≤ blk x n a := by omega
    obtain ⟨t1, _, _, h51, h81, rn1⟩ := id r1
    have g1 := t1.1
    unfold oneP
    generalize blk x n a = b at *
    obtain ⟨m2, a1, a2, a3⟩ := r_isWord (k := 5) (by omega) six5 t1 y3 h51 hb.2
    rw [hbb] at a1 a3
    have r2 := RS_s r1 a2 a3 hb.2
    obtain ⟨t2, _, _, h52, h82, rn2⟩ := id r2
    have g2 := t2.1
    obtain ⟨m3, b1, b2, b3⟩ := r_isWord (k := 6) (by omega) six6 t2 a3 h52 hb.2
    rw [hbb] at b1 b3
    have r3 := RS_s r2 b2 b3 hb.2
    obtain ⟨t3, _, _, h53, h83, rn3⟩ := id r3
    have g3 := t3.1
    obtain ⟨k5, k6, _⟩ := kw_4 (x := x) (n := n) (b := b)
    have q12 := Nq_trans (Rs_Nq y2) (Rs_Nq a2)
    have q123 := Nq_trans q12 (Rs_Nq b2)
    have n1 : ((1 : Int32) = 0) = False := o10
    have n7 : ((7 : Int32) = -1) = False := by decide
    have n8 : ((8 : Int32) = -1) = False := by decide
    -- least and most
    have pr : ∀ (c : Nat) (M : Mm), c = 1004 ∨ c = 1005 → kwL x n b = c → RS x n b (6 - k) acc M → Nq m M →
        (∀ X, (gd (okO M 49 12) (bd (F_X12_opensOne 49 M) fun r25 m26 => if r25 = 0 then some ((), m26) else gd (okO m26 49 12) (bd (F_X12_skipWord 49 m26) fun _ m28 => gd (okO m28 49 12) (bd (F_X12_sign 49 91 m28) fun _ m30 => gd (okO m30 49 12) (bd (fS 49 m30) fun _ m32 => gd (okO m32 49 12) (bd (F_X12_sign 49 44 m32) fun _ m34 => gd (okO m34 49 12) (bd (fS 49 m34) fun _ m36 => gd (okO m36 49 12) (bd (F_X12_sign 49 93 m36) fun _ m38 => gd (okO m38 49 12) (bd (F_X12_notes 49 (cdA c) 0 m38) fun _ m40 => gd (okO m40 49 12) (some ((), wI m40 49 8 (rI m40 49 8 - 1)))))))))))) = X → B_X12_one fS fP fO 49 m = X) →
        (∀ acc' e, (if isD x n b = true then (match numP x n b 0 1000 with
            | .inr q => .inr q
            | .inl (v, e) => .inl (acc ++ [v], e)) else if b < n ∧ x b = 40 then (if k = 0 then .inr (3, b) else parP x n S acc (b + 1)) else wordP x n S k acc b) = (.inl (acc', e) : LR) → ∃ m', B_X12_one fS fP fO 49 m = some ((), m') ∧ Nq m m' ∧ RS x n e (6 - k) acc' m' ∧ a < e ∧ acc'.length + s ≤ e) ∧
        (∀ kk p, (if isD x n b = true then (match numP x n b 0 1000 with
            | .inr q => .inr q
            | .inl (v, e) => .inl (acc ++ [v], e)) else if b < n ∧ x b = 40 then (if k = 0 then .inr (3, b) else parP x n S acc (b + 1)) else wordP x n S k acc b) = (.inr (kk, p) : LR) → ∃ m', B_X12_one fS fP fO 49 m = some ((), m') ∧ Nq m m' ∧ RE x n kk p m') := by
      intro c M hc hkw rM qM head
      have hL := kw_L (x := x) (n := n) (b := b) (by omega)
      obtain ⟨e1, e2⟩ := isL_D hL
      rw [e1, if_neg (by decide), if_neg e2]
      unfold wordP
      rw [hL, if_neg (by decide), if_neg (show ¬ kwL x n b = 0 by omega), if_neg (show ¬ kwL x n b < 1004 by omega), hkw]
      have gM := rM.1.1
      obtain ⟨o1, o2⟩ := r_opens rM (by omega)
      by_cases q5 : k = 0
      · rw [if_pos q5]
        obtain ⟨m4, u1, u2, u3⟩ := o1 (by omega)
        refine ⟨fun acc' e z => (by cases z), fun kk p z => ?_⟩
        cases z
        refine ⟨m4, head _ ?_, Nq_trans qM u2, u3⟩
        simp only [gO49 gM, gd_t, bdE u1, if_true]
      · rw [if_neg q5]
        obtain ⟨m4, u1, u2, u3⟩ := o2 (by omega)
        have g4 := u3.1.1
        obtain ⟨m5, v1, v2, v3⟩ := r_skipWord u3.1 u3.2.1 u3.2.2.1
        have hwe := wE_le (x := x) (n := n) (b := b) hb.2
        have r5 := RS_s u3 v2 v3 hwe.2
        have g5 := r5.1.1
        obtain ⟨w1, w2⟩ := r_pair (c := c) hn (hS (by omega)) hc r5 (show acc.length + s ≤ wE x n b by omega)
        have qq := Nq_trans (Nq_trans qM u2) (Rs_Nq v2)
        refine ⟨fun acc' e z => ?_, fun kk p z => ?_⟩
        · obtain ⟨m6, x1, x2, x3, x4, x5⟩ := w1 acc' e z
          refine ⟨m6, head _ ?_, Nq_trans qq x2, x3, by omega, x5⟩
          simp only [gO49 gM, gO49 g4, gO49 g5, gd_t, bdE u1, n1, if_false, bdE v1]
          exact x1
        · obtain ⟨m6, x1, x2, x3⟩ := w2 kk p z
          refine ⟨m6, head _ ?_, Nq_trans qq x2, x3⟩
          simp only [gO49 gM, gO49 g4, gO49 g5, gd_t, bdE u1, n1, if_false, bdE v1]
          exact x1
    cases c5 : isW x b (wE x n b) (sN 5)
    · rw [c5] at a1
      cases c6 : isW x b (wE x n b) (sN 6)
      · rw [c6] at b1
        have hk4 : ¬ kwL x n b = 1004 := fun z => by
          have := k5.mpr z
          rw [c5] at this
          cases this
        have hk5 : ¬ kwL x n b = 1005 := fun z => by
          have := k6.mpr z
          rw [c6] at this
          cases this
        have hkw := kwL_le x n b
        have h6 := t.2.1
        have hby := r_byteAt (a := b) t3 (by omega)
        have h40 := chr_c (n := n) (a := b) (c := 40) (TR_x t3) (by omega)
        have head : ∀ X, (if chr x n b = (40 : Int32) then gd (okO m3 49 12) (bd (F_X12_opensOne 49 m3) fun r17 m18 => if r17 = 0 then some ((), m18) else gd (okO m18 49 12) (gd (okO (wI m18 49 4 (rI m18 49 4 + 1)) 49 12) (bd (fS 49 (wI m18 49 4 (rI m18 49 4 + 1))) fun _ m21 => gd (okO m21 49 12) (bd (F_X12_sign 49 41 m21) fun _ m23 => gd (okO m23 49 12) (some ((), wI m23 49 8 (rI m23 49 8 - 1))))))) else gd (okO m3 49 12) (bd (F_X12_knownHere 49 m3) fun r8 m9 => if r8 = (-1 : Int32) then gd (okO m9 49 12) (bd (F_X12_number 49 0 999 m9) fun r11 m12 => gd (okO m12 49 12) (bd (F_X12_notes 49 0 r11 m12) fun _ m14 => some ((), m14))) else gd (okO m9 49 12) (bd (F_X12_notes 49 1 r8 m9) fun _ m16 => some ((), m16)))) = X → B_X12_one fS fP fO 49 m = X := by
          intro X hX
          rw [← hX]
          unfold B_X12_one
          simp only [gO49 g, gO49 g1, gO49 g2, gO49 g3, gd_t, h5, if_true, bdE y1, bdE a1, bdE b1, jn_e, lt9_e, b2i_f, b3, bdE hby, gd_gd]
        by_cases q40 : b < n ∧ x b = 40
        · have e40 := eq_true (h40.mpr q40)
          have hD : isD x n b = false := by
            unfold isD
            exact decide_eq_false (by omega)
          rw [hD, if_neg (by decide), if_pos q40]
          rw [show ni 40 = 40 from rfl] at e40
          simp only [e40, if_true] at head
          obtain ⟨o1, o2⟩ := r_opens r3 (by omega)
          by_cases q5 : k = 0
          · rw [if_pos q5]
            obtain ⟨m4, u1, u2, u3⟩ := o1 (by omega)
            refine ⟨fun acc' e z => (by cases z), fun kk p z => ?_⟩
            cases z
            refine ⟨m4, head _ ?_, Nq_trans q123 u2, u3⟩
            simp only [gO49 g3, gd_t, bdE u1, if_true]
          · rw [if_neg q5]
            obtain ⟨m4, u1, u2, u3⟩ := o2 (by omega)
            have g4 := u3.1.1
            have w4 : Rs m4 (wI m4 49 4 (rI m4 49 4 + 1)) := Rs_w (Rs_refl m4)
            have r5 : RS x n (b + 1) (6 - k + 1) acc (wI m4 49 4 (rI m4 49 4 + 1)) := RS_s u3 w4 (by rw [rIw, uf_at, u3.2.1]; exact ni_add b 1) (by omega)
            have g5 := r5.1.1
            obtain ⟨z0, z1⟩ := hS (by omega)
            obtain ⟨s1, s2⟩ := z1 acc (b + 1) s _ r5 (by omega)
            have qq := Nq_trans (Nq_trans q123 u2) (Rs_Nq w4)
            unfold parP
            cases p1 : S acc (b + 1) with
            | inr f =>
              obtain ⟨kk, p⟩ := f
              refine ⟨fun acc' e z => (by cases z), fun kk p z => ?_⟩
              cases z
              obtain ⟨m6, x1, x2, x3⟩ := s2 _ _ p1
              have g6 := x3.1.1
              have h56 := RE_5 x3
              obtain ⟨w1, w2⟩ := RE_w (v := rI m6 49 8 - 1) x3
              refine ⟨_, head _ ?_, Nq_trans (Nq_trans qq x2) w2, w1⟩
              simp only [gO49 g3, gO49 g4, gO49 g5, gO49 g6, gd_t, bdE u1, n1, if_false, bdE x1, bdE (r_sign0 (k := 41) g6 h56)]
            | inl f =>
              obtain ⟨acc1, e⟩ := f
              obtain ⟨m6, x1, x2, x3, x4, x5⟩ := s1 _ _ p1
              have g6 := x3.1.1
              obtain ⟨s3, s4⟩ := r_sg (cc := 41) x3 (by omega)
              rw [show ni 41 = 41 from rfl] at s3 s4
              dsimp only
              cases p2 : sgnP x n e 41 with
              | inr f =>
                obtain ⟨kk, p⟩ := f
                refine ⟨fun acc' e z => (by cases z), fun kk p z => ?_⟩
                cases z
                obtain ⟨m7, w1, w2, w3⟩ := s4 _ _ p2
                have g7 := w3.1.1
                obtain ⟨v1, v2⟩ := RE_w (v := rI m7 49 8 - 1) w3
                refine ⟨_, head _ ?_, Nq_trans (Nq_trans (Nq_trans qq x2) w2) v2, v1⟩
                simp only [gO49 g3, gO49 g4, gO49 g5, gO49 g6, gO49 g7, gd_t, bdE u1, n1, if_false, bdE x1, bdE w1]
              | inl e2 =>
                obtain ⟨m7, w1, w2, w3, w4⟩ := s3 _ p2
                have g7 := w3.1.1
                obtain ⟨v1, v2⟩ := RS_o w3
                refine ⟨fun acc' e z => ?_, fun kk p z => (by cases z)⟩
                cases z
                refine ⟨_, head _ ?_, Nq_trans (Nq_trans (Nq_trans qq x2) w2) v2, v1, by omega, by omega⟩
                simp only [gO49 g3, gO49 g4, gO49 g5, gO49 g6, gO49 g7, gd_t, bdE u1, n1, if_false, bdE x1, bdE w1]
        · have e40 := eq_false (fun z => q40 (h40.mp z))
          rw [show ni 40 = 40 from rfl] at e40
          simp only [e40, if_false] at head
          rw [if_neg q40]
          obtain ⟨m4, u1, u2, u3⟩ := r_known r3 hbb
          by_cases q6 : 1000 ≤ kwL x n b ∧ kwL x n b < 1004
          · rw [if_pos q6] at u1 u3
            have hL := kw_L (x := x) (n := n) (b := b) (by omega)
            obtain ⟨e1, e2⟩ := isL_D hL
            have hwe := wE_le (x := x) (n := n) (b := b) hb.2
            have hlt : b < wE x n b := by
              unfold wE
              have hq := (isL_x hL).1
              rw [show n - b = (n - b - 1) + 1 by omega, lE, if_pos hL]
              have := lE_le x n (n - b - 1) (b + 1)
              omega
            rw [e1, if_neg (by decide)]
            unfold wordP
            rw [hL, if_neg (by decide), if_neg (show ¬ kwL x n b = 0 by omega), if_pos q6.2]
            have r4 := RS_s r3 u2 u3 hwe.2
            have g4 := r4.1.1
            obtain ⟨m5, v1, v2, v3⟩ := r_notes (c := kwL x n b) r4 (by omega)
            have hA : cdA (kwL x n b) = 1 := by
              unfold cdA
              rw [if_neg (by omega), if_pos q6.2]
            have hB : cdB (kwL x n b) = ni (kwL x n b - 1000) := by
              unfold cdB
              rw [if_neg (by omega), if_pos q6.2]
            rw [hA, hB] at v1
            have hm : (ni (kwL x n b - 1000) = (-1 : Int32)) = False := eq_false (fun z => (ni_ne1 (by omega)).mp z)
            refine ⟨fun acc' e z => ?_, fun kk p z => (by cases z)⟩
            cases z
            refine ⟨m5, head _ ?_, Nq_trans (Nq_trans q123 (Rs_Nq u2)) v3, v2, by omega, by rw [len_s]; omega⟩
            simp only [gO49 g3, gO49 g4, gd_t, bdE u1, hm, if_false, bdE v1]
          · rw [if_neg q6] at u1 u3
            have hk0 : kwL x n b = 0 := by omega
            have r4 := RS_s r3 u2 u3 hb.2
            have g4 := r4.1.1
            obtain ⟨w1, w2⟩ := r_number (lo := 0) (h := 1000) (hi := 999) r4.1 u3 r4.2.2.2.1 hb.2 (by decide) (by omega) (by omega)
            rw [ni_0] at w1 w2
            have hW : wordP x n S k acc b = .inr (1, b) := by
              unfold wordP
              rw [hk0]
              split <;> rfl
            rw [hW]
            have qq := Nq_trans q123 (Rs_Nq u2)
            cases q7 : isD x n b
            · simp only [reduceCtorEq, if_false]
              have hnp : numP x n b 0 1000 = .inr (1, b) := by
                unfold numP
                rw [hbb, q7]
                rfl
              obtain ⟨m5, v1, v2, v3, v4⟩ := w2 _ _ hnp
              have re := RE_f r4.1 v2 v3 v4
              refine ⟨fun acc' e z => (by cases z), fun kk p z => ?_⟩
              cases z
              refine ⟨m5, head _ ?_, Nq_trans qq (Rf_Nq v2), re⟩
              simp only [gO49 g3, gO49 g4, gO49 re.1.1, gd_t, bdE u1, if_true, bdE v1, bdE (r_notes0 (u := 0) (v := 0) re.1.1 (RE_5 re))]
            · simp only [if_true]
              cases q8 : numP x n b 0 1000 with
              | inr f =>
                obtain ⟨kk, p⟩ := f
                obtain ⟨m5, v1, v2, v3, v4⟩ := w2 _ _ q8
                have re := RE_f r4.1 v2 v3 v4
                refine ⟨fun acc' e z => (by cases z), fun kk p z => ?_⟩
                cases z
                refine ⟨m5, head _ ?_, Nq_trans qq (Rf_Nq v2), re⟩
                simp only [gO49 g3, gO49 g4, gO49 re.1.1, gd_t, bdE u1, if_true, bdE v1, bdE (r_notes0 (u := 0) (v := 0) re.1.1 (RE_5 re))]
              | inl f =>
                obtain ⟨v, e⟩ := f
                obtain ⟨m5, v1, v2, v3, v4, v5, v6⟩ := w1 _ _ q8
                rw [hbb] at v5
                have r5 := RS_s r4 v2 v3 v4
                have g5 := r5.1.1
                obtain ⟨m6, z1, z2, z3⟩ := r_notes (c := v) r5 (by omega)
                have hA : cdA v = 0 := by
                  unfold cdA
                  rw [if_pos v6]
                have hB : cdB v = ni v := by
                  unfold cdB
                  rw [if_pos v6]
                rw [hA, hB] at z1
                refine ⟨fun acc' e z => ?_, fun kk p z => (by cases z)⟩
                cases z
                refine ⟨m6, head _ ?_, Nq_trans (Nq_trans qq (Rs_Nq v2)) z3, z2, by omega, by rw [len_s]; omega⟩
                simp only [gO49 g3, gO49 g4, gO49 g5, gd_t, bdE u1, if_true, bdE v1, bdE z1]
      · rw [c6] at b1
        refine pr 1005 m3 (by omega) (k6.mp c6) r3 q123 (fun X hX => ?_)
        rw [← hX]
        unfold B_X12_one
        rw [show cdA 1005 = 8 from rfl]
        simp only [gO49 g, gO49 g1, gO49 g2, gd_t, h5, if_true, bdE y1, bdE a1, bdE b1, jn_e, lt9_e, b2i_f, b2i_t, n1, n8, if_false, gd_gd]
    · rw [c5] at a1
      refine pr 1004 m2 (by omega) (k5.mp c5) r2 q12 (fun X hX => ?_)
      rw [← hX]
      unfold B_X12_one
      rw [show cdA 1004 = 7 from rfl]
      simp only [gO49 g, gO49 g1, gd_t, h5, if_true, bdE y1, bdE a1, jn_e, lt9_e, b2i_t, n1, n7, if_false, gd_gd]
