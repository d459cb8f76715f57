/-! L2: the reference's note. -/
def RN4 (n : Nat) (σ : St) (m : Mm) : Prop := G m ∧ rI m 53 0 = ni n ∧ RR (rI m 473) σ
theorem RN4_f {n : Nat} {σ : St} {m m' : Mm} (h : RN4 n σ m) (f : Nr4 m m') : RN4 n σ m' := ⟨G_fr f.1 h.1, by rw [(f.1.1 53 (by omega)).1]; exact h.2.1, by rw [(f.1.1 473 (by omega)).1]; exact h.2.2⟩
theorem Nr4_refl (m : Mm) : Nr4 m m := ⟨Fm_refl _ _, fun _ _ => rfl⟩
theorem r_ntL {K : Nat → Mm → Option (Unit × Mm)} {n : Nat} {σ : St} (hn : n ≤ 6) : ∀ (d i fuel : Nat) (q : Bool × List Nat) (m : Mm), i + d = n → d < fuel → RN4 n σ m → NR4 q.2 m → q.2.length ≤ 8 + 4 * i →
    ∃ m', L_X12_laysNote_33 K fuel 49 (b2i q.1) (ni i) m = K 49 m' ∧ NR4 (itn (ntF σ) d i q).2 m' ∧ Nr4 m m' ∧ (itn (ntF σ) d i q).2.length ≤ 32 := by
  intro d
  induction d with
  | zero =>
    intro i fuel q m hi hf r h hl
    obtain ⟨fuel, rfl⟩ : ∃ z, fuel = z + 1 := ⟨fuel - 1, by omega⟩
    obtain ⟨g, h53, rr⟩ := r
    refine ⟨m, ?_, h, Nr4_refl m, by show q.2.length ≤ 32; omega⟩
    have e : (ni n ≤ ni i) = True := eq_true (by rw [ni_le (by omega) (by omega)]; omega)
    rw [L_X12_laysNote_33]
    simp only [gO49 g, gd_t, gR49_12 g, oc_s, gK53 (i := 0) g (by omega), ix0', h53, e, if_true]
  | succ d ih =>
    intro i fuel q m hi hf r h hl
    obtain ⟨fuel, rfl⟩ : ∃ z, fuel = z + 1 := ⟨fuel - 1, by omega⟩
    have hi6 : i < 6 := by omega
    have e : (ni n ≤ ni i) = False := eq_false (fun z => by rw [ni_le (by omega) (by omega)] at z; omega)
    have hlen := nt_len σ hi6 hl
    rw [show itn (ntF σ) (d + 1) i q = itn (ntF σ) d (i + 1) (ntF σ i q) from rfl]
    have ea : ni i + 1 = ni (i + 1) := ni_add _ 1
    have k182 : ∀ M, G M → okA M 100 473 (182 : Int32) = true := fun M gM => gK473 (i := 182) gM (by omega)
    have k184 : ∀ M, G M → okA M 100 473 (184 : Int32) = true := fun M gM => gK473 (i := 184) gM (by omega)
    have k185 : ∀ M, G M → okA M 100 473 (185 : Int32) = true := fun M gM => gK473 (i := 185) gM (by omega)
    have i182 : ix (182 : Int32) = 182 := rfl
    have i184 : ix (184 : Int32) = 184 := rfl
    have i185 : ix (185 : Int32) = 185 := rfl
    have h182 : ∀ M, RN4 n σ M → F_X12_has (rI M 473 182) (ni i) M = some (b2i (tb (gI σ 0 1) i), M) := fun M hM => by rw [RR182 hM.2.2]; exact hasR (by omega) M
    have h184 : ∀ M, RN4 n σ M → F_X12_has (rI M 473 184) (ni i) M = some (b2i (tb (gI σ 0 3) i), M) := fun M hM => by rw [RR184 hM.2.2]; exact hasR (by omega) M
    have h185 : ∀ M, RN4 n σ M → F_X12_has (rI M 473 185) (ni i) M = some (b2i (tb (gI σ 0 4) i), M) := fun M hM => by rw [RR185 hM.2.2]; exact hasR (by omega) M
    have g := r.1
    have h53 := r.2.1
    have t1 := h182 m r
    cases t : tb (gI σ 0 1) i
    · rw [t] at t1
      have hF : ntF σ i q = q := by unfold ntF; rw [t]; rfl
      rw [hF] at hlen ⊢
      obtain ⟨m', y1, y2, y3, y4⟩ := ih (i + 1) fuel q m (by omega) (by omega) r h hlen
      refine ⟨m', ?_, y2, y3, y4⟩
      rw [← y1, L_X12_laysNote_33]
      simp only [gO49 g, gd_t, gR49_12 g, gR49_23 g, oc_s, gK53 (i := 0) g (by omega), ix0', h53, e, if_false, k182 m g, i182, bdE t1, jn_e, b2i_f, if_true, lt9_e, ea]
    · rw [t] at t1
      have hF : ntF σ i q = (false, q.2 ++ (if q.1 then [] else [44]) ++ memN σ i) := by unfold ntF; rw [t]; rfl
      -- from behind the comma
      have mem : ∀ (l : List Nat) (M : Mm), RN4 n σ M → NR4 l M → l.length < 50 → Nr4 m M → (l ++ memN σ i).length ≤ 8 + 4 * (i + 1) → ∃ m2, (gd (okO M 49 12) (bd (F_X12_notesNumber 49 (ni i) M) fun r17 m18 => gd (okO m18 49 12) (oc (rR m18 49 23) none fun q19 => gd (okA m18 100 q19 (185 : Int32)) (bd (F_X12_has (rI m18 q19 (ix (185 : Int32))) (ni i) m18) fun r20 m21 => if r20 = 0 then gd (okO m21 49 12) (oc (rR m21 49 23) none fun q22 => gd (okA m21 100 q22 (184 : Int32)) (bd (F_X12_has (rI m21 q22 (ix (184 : Int32))) (ni i) m21) fun r23 m24 => if r23 = 0 then gd (okO m24 49 12) (bd (F_X12_notesSign 49 (63 : Int32) m24) fun r25 m26 => L_X12_laysNote_33 K fuel 49 0 (ni (i + 1)) m26) else L_X12_laysNote_33 K fuel 49 0 (ni (i + 1)) m24)) else gd (okO m21 49 12) (bd (F_X12_notesSign 49 (33 : Int32) m21) fun r27 m28 => gd (okO m28 49 12) (oc (rR m28 49 23) none fun q22 => gd (okA m28 100 q22 (184 : Int32)) (bd (F_X12_has (rI m28 q22 (ix (184 : Int32))) (ni i) m28) fun r23 m24 => if r23 = 0 then gd (okO m24 49 12) (bd (F_X12_notesSign 49 (63 : Int32) m24) fun r25 m26 => L_X12_laysNote_33 K fuel 49 0 (ni (i + 1)) m26) else L_X12_laysNote_33 K fuel 49 0 (ni (i + 1)) m24))))))) = L_X12_laysNote_33 K fuel 49 0 (ni (i + 1)) m2 ∧ NR4 (l ++ memN σ i) m2 ∧ Nr4 m m2 ∧ RN4 n σ m2 := by
        intro l M rM hM hl2 fM hl3
        have gM := rM.1
        obtain ⟨m1, x1, x2, x3⟩ := r_number4 (v := i) (by omega) gM hM (by omega)
        have r1 := RN4_f rM x3
        have g1 := r1.1
        have d1 : (l ++ dgs i).length < 52 := by rw [List.length_append, dgs_1 (by omega)]; omega
        have t5 := h185 m1 r1
        have last : ∀ (l2 : List Nat) (M2 : Mm), RN4 n σ M2 → NR4 l2 M2 → l2.length < 55 → Nr4 m M2 → ∃ m2, (bd (F_X12_has (rI M2 473 184) (ni i) M2) fun r23 m24 => if r23 = 0 then gd (okO m24 49 12) (bd (F_X12_notesSign 49 (63 : Int32) m24) fun r25 m26 => L_X12_laysNote_33 K fuel 49 0 (ni (i + 1)) m26) else L_X12_laysNote_33 K fuel 49 0 (ni (i + 1)) m24) = L_X12_laysNote_33 K fuel 49 0 (ni (i + 1)) m2 ∧ NR4 (l2 ++ (if tb (gI σ 0 3) i then [] else [63])) m2 ∧ Nr4 m m2 ∧ RN4 n σ m2 := by
          intro l2 M2 rM2 hM2 hl2 fM2
          have t3 := h184 M2 rM2
          cases u : tb (gI σ 0 3) i
          · rw [u] at t3
            obtain ⟨m', y1, y2, y3, y4⟩ := r_put4 (k := 63) rM2.1 hM2 (by omega)
            rw [show ni 63 = 63 from rfl] at y1
            refine ⟨m', ?_, y2, Nr4_trans fM2 ⟨y3, y4⟩, RN4_f rM2 ⟨y3, y4⟩⟩
            simp only [bdE t3, b2i_f, if_true, gO49 rM2.1, gd_t, bdE y1]
          · rw [u] at t3
            refine ⟨M2, ?_, ?_, fM2, rM2⟩
            · simp only [bdE t3, b2i_t, o10, if_false]
            · show NR4 (l2 ++ []) M2
              rw [List.append_nil]
              exact hM2
        cases u : tb (gI σ 0 4) i
        · rw [u] at t5
          obtain ⟨m2, y1, y2, y3, y4⟩ := last (l ++ dgs i) m1 r1 x2 (by omega) (Nr4_trans fM x3)
          refine ⟨m2, ?_, ?_, y3, y4⟩
          · simp only [gO49 gM, gO49 g1, gd_t, bdE x1, gR49_23 g1, oc_s, k185 m1 g1, i185, bdE t5, b2i_f, if_true, k184 m1 g1, i184]
            exact y1
          · unfold memN
            rw [u, if_neg (by decide), List.append_nil, ← List.append_assoc]
            exact y2
        · rw [u] at t5
          obtain ⟨m3, z1, z2, z3, z4⟩ := r_put4 (k := 33) g1 x2 (by omega)
          rw [show ni 33 = 33 from rfl] at z1
          have r3 := RN4_f r1 ⟨z3, z4⟩
          have g3 := r3.1
          obtain ⟨m2, y1, y2, y3, y4⟩ := last (l ++ dgs i ++ [33]) m3 r3 z2 (by rw [len_n]; omega) (Nr4_trans (Nr4_trans fM x3) ⟨z3, z4⟩)
          refine ⟨m2, ?_, ?_, y3, y4⟩
          · simp only [gO49 gM, gO49 g1, gO49 g3, gd_t, bdE x1, gR49_23 g1, gR49_23 g3, oc_s, k185 m1 g1, i185, bdE t5, b2i_t, o10, if_false, bdE z1, k184 m3 g3, i184]
            exact y1
          · unfold memN
            rw [u, if_pos rfl, ← List.append_assoc, ← List.append_assoc]
            exact y2
      cases t2 : q.1
      · obtain ⟨m1, z1, z2, z3, z4⟩ := r_put4 (k := 44) g h (by omega)
        rw [show ni 44 = 44 from rfl] at z1
        have r1 := RN4_f r ⟨z3, z4⟩
        rw [t2] at hF
        rw [hF] at hlen ⊢
        obtain ⟨m2, x1, x2, x3, x4⟩ := mem (q.2 ++ [44]) m1 r1 z2 (by rw [len_n]; omega) ⟨z3, z4⟩ hlen
        obtain ⟨m', y1, y2, y3, y4⟩ := ih (i + 1) fuel (false, q.2 ++ [44] ++ memN σ i) m2 (by omega) (by omega) x4 x2 hlen
        refine ⟨m', ?_, y2, Nr4_trans x3 y3, y4⟩
        rw [← y1, b2i_f, ← x1, L_X12_laysNote_33]
        simp only [gO49 g, gd_t, gR49_12 g, gR49_23 g, oc_s, gK53 (i := 0) g (by omega), ix0', h53, e, if_false, k182 m g, i182, bdE t1, jn_e, b2i_t, o10, if_true, lt9_e, ea, bdE z1]
      · rw [t2] at hF
        rw [hF] at hlen ⊢
        have h' : NR4 (q.2 ++ []) m := by rw [List.append_nil]; exact h
        obtain ⟨m2, x1, x2, x3, x4⟩ := mem (q.2 ++ []) m r h' (by rw [List.append_nil]; omega) (Nr4_refl m) hlen
        obtain ⟨m', y1, y2, y3, y4⟩ := ih (i + 1) fuel (false, q.2 ++ [] ++ memN σ i) m2 (by omega) (by omega) x4 x2 hlen
        refine ⟨m', ?_, y2, Nr4_trans x3 y3, y4⟩
        rw [← y1, b2i_f, ← x1, L_X12_laysNote_33]
        simp only [gO49 g, gd_t, gR49_12 g, gR49_23 g, oc_s, gK53 (i := 0) g (by omega), ix0', h53, e, if_false, k182 m g, i182, bdE t1, jn_e, b2i_t, o10, lt9_e, ea]
theorem r_note {n v c : Nat} {σ : St} {m : Mm} (hn : n ≤ 6) (r : RN4 n σ m) (hv : gI σ 0 0 = ni v) (hv6 : v < 1000000) (hc : gI σ 0 7 = ni c) (hc6 : c < 1000000) :
    ∃ m', F_X12_laysNote 49 m = some ((), m') ∧ NR4 (noteN σ n v c) m' ∧ Nr4 m m' := by
  have f0 : Nr4 m (wI m 49 35 0) := ⟨Fm_wI (Fm_refl _ _) (.inl rfl), fun j hj => by rw [rIw, uf_ne hj]⟩
  have r0 := RN4_f r f0
  have h0 : NR4 [] (wI m 49 35 0) := ⟨by rw [rIw, uf_at]; rfl, fun i hi => by simp only [List.length_nil] at hi; omega⟩
  obtain ⟨m1, x1, x2, x3, x4⟩ := r_put4 (k := 118) r0.1 h0 (by simp only [List.length_nil]; omega)
  have f1 := Nr4_trans f0 ⟨x3, x4⟩
  have r1 := RN4_f r f1
  have g := r.1
  have g0 := r0.1
  have g1 := r1.1
  obtain ⟨m2, y1, y2, y3⟩ := r_number4 (v := v) hv6 g1 x2 (by rw [len_n]; simp only [List.length_nil]; omega)
  have f2 := Nr4_trans f1 y3
  have g2 := (RN4_f r f2).1
  have d6 := dgs_len hv6
  have l2 : ([] ++ [118] ++ dgs v).length ≤ 7 := by
    rw [List.length_append, List.nil_append, List.length_singleton]
    omega
  obtain ⟨m3, z1, z2, z3, z4⟩ := r_put4 (k := 58) g2 y2 (by omega)
  have f3 := Nr4_trans f2 ⟨z3, z4⟩
  have l3 : (headN v).length ≤ 8 := by
    unfold headN
    rw [len_n]
    omega
  obtain ⟨m4, w1, w2, w3, w4⟩ := r_ntL (K := fun v0 m => gd (okO m v0 12) (bd (F_X12_notesSign v0 (59 : Int32) m) fun r31 m32 => gd (okO m32 v0 12) (oc (rR m32 v0 23) none fun q33 => gd (okA m32 100 q33 (187 : Int32)) (gd (okO m32 v0 12) (bd (F_X12_notesNumber v0 (rI m32 q33 (ix (187 : Int32))) m32) fun r34 m35 => some ((), m35)))))) (σ := σ) hn n 0 NF (true, headN v) m3 (by omega) (by unfold NF; omega) (RN4_f r f3) z2 (by show (headN v).length ≤ 8 + 4 * 0; omega)
  have f4 := Nr4_trans f3 w3
  have g4 := (RN4_f r f4).1
  obtain ⟨m5, u1, u2, u3, u4⟩ := r_put4 (k := 59) g4 w2 (by omega)
  have f5 := Nr4_trans f4 ⟨u3, u4⟩
  have r5 := RN4_f r f5
  have g5 := r5.1
  obtain ⟨m6, t1, t2, t3⟩ := r_number4 (v := c) hc6 g5 u2 (by rw [len_n]; omega)
  refine ⟨m6, ?_, t2, Nr4_trans f5 t3⟩
  rw [show ni 118 = 118 from rfl] at x1
  rw [show ni 58 = 58 from rfl] at z1
  rw [show ni 59 = 59 from rfl] at u1
  rw [ni_0, b2i_t] at w1
  have q181 : rI m1 473 (ix (181 : Int32)) = ni v := (RR181 r1.2.2).trans hv
  have q187 : rI m5 473 (ix (187 : Int32)) = ni c := (RR187 r5.2.2).trans hc
  have k181 : okA m1 100 473 (181 : Int32) = true := gK473 (i := 181) g1 (by omega)
  have k187 : okA m5 100 473 (187 : Int32) = true := gK473 (i := 187) g5 (by omega)
  unfold F_X12_laysNote
  simp only [gO49 g, gO49 g0, gO49 g1, gO49 g2, gd_t, lt9_e, bdE x1, gR49_23 g1, oc_s, k181, q181, bdE y1, bdE z1]
  refine w1.trans ?_
  simp only [gO49 g4, gO49 g5, gd_t, bdE u1, gR49_23 g5, oc_s, k187, q187, bdE t1]
