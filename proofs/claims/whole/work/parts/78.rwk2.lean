/-! L2: the reference's reading of a work: a step. -/
def stqP (x : Nat → Nat) (n N : Nat) (S : List Q4 → Nat → SR) (k : Nat) (acc : List Q4) (b : Nat) : SR := match stP x n N S k acc b with
  | .inr q => .inr q
  | .inl (acc1, e) => match sgnP x n e 59 with
    | .inr q => .inr q
    | .inl e2 => .inl (acc1, e2)
def rJ195 (v2 : Nat) (m : Mm) : Option (Unit × Mm) := gd (okO m 49 12) (gd (okA m 100 v2 (3 : Int32)) (gd (okO (wI m v2 (ix (3 : Int32)) (rI m 49 22)) 49 12) (bd (F_X12_sign 49 (59 : Int32) (wI m v2 (ix (3 : Int32)) (rI m 49 22))) fun _ m12 => some ((), m12))))
def rJ122 (fR : Nat → Mm → Option (Unit × Mm)) (v1 : Int32) (v2 : Nat) (m : Mm) : Option (Unit × Mm) :=
  if v1 = (10 : Int32) then gd (okO m 49 12) (bd (F_X12_number 49 (0 : Int32) (60 : Int32) m) fun r13 m14 => gd (okA m14 100 v2 (1 : Int32)) (gd (okO (wI m14 v2 (ix (1 : Int32)) r13) 49 12) (bd (F_X12_sign 49 (91 : Int32) (wI m14 v2 (ix (1 : Int32)) r13)) fun _ m17 => gd (okO m17 49 12) (bd (F_X12_blanks 49 m17) fun _ m19 =>
    L_X12_readsStep_148 fR (fun v0 v2 m => gd (okO m v0 12) (bd (F_X12_sign v0 (93 : Int32) m) fun r26 m27 => gd (okO m27 v0 12) (gd (okO m27 v0 12) (gd (okO (wI m27 v0 8 ((rI m27 v0 8) - (1 : Int32))) v0 12) (gd (okA (wI m27 v0 8 ((rI m27 v0 8) - (1 : Int32))) 100 v2 (3 : Int32)) (gd (okO (wI (wI m27 v0 8 ((rI m27 v0 8) - (1 : Int32))) v2 (ix (3 : Int32)) (rI (wI m27 v0 8 ((rI m27 v0 8) - (1 : Int32))) v0 22)) v0 12) (bd (F_X12_sign v0 (59 : Int32) (wI (wI m27 v0 8 ((rI m27 v0 8) - (1 : Int32))) v2 (ix (3 : Int32)) (rI (wI m27 v0 8 ((rI m27 v0 8) - (1 : Int32))) v0 22))) fun _ m12 => some ((), m12)))))))) NF 49 v2 m19))))
  else rJ195 v2 m
def rJ106 (fR : Nat → Mm → Option (Unit × Mm)) (v1 : Int32) (v2 : Nat) (m : Mm) : Option (Unit × Mm) :=
  if v1 = (7 : Int32) then gd (okO m 49 12) (bd (F_X12_number 49 (0 : Int32) (63 : Int32) m) fun r29 m30 => gd (okA m30 100 v2 (1 : Int32)) (rJ122 fR v1 v2 (wI m30 v2 (ix (1 : Int32)) r29))) else rJ122 fR v1 v2 m
def rJ91 (fR : Nat → Mm → Option (Unit × Mm)) (v1 : Int32) (v2 : Nat) (m : Mm) : Option (Unit × Mm) :=
  if v1 = 0 then gd (okO m 49 12) (bd (F_X12_number 49 (0 : Int32) (999 : Int32) m) fun r32 m33 => gd (okA m33 100 v2 (2 : Int32)) (rJ106 fR v1 v2 (wI m33 v2 (ix (2 : Int32)) r32))) else rJ106 fR v1 v2 m
def rJ33 (fR : Nat → Mm → Option (Unit × Mm)) (v1 : Int32) (m : Mm) : Option (Unit × Mm) :=
  gd (okO m 49 12) (if (rI m 49 5) = 0 then gd (okO m 49 12) (bd (F_X12_skipWord 49 m) fun _ m5 =>
    gd (okO m5 49 12) (oc (rR m5 49 21) none fun q6 => gd (okO m5 49 12) (gd (okA m5 106 q6 (rI m5 49 22)) (oc (rR m5 q6 (ix (rI m5 49 22))) none fun q7 =>
    gd (okO m5 49 12) (gd (okO m5 49 12) (gd (okA (wI m5 49 22 ((rI m5 49 22) + (1 : Int32))) 100 q7 (0 : Int32)) (
      if (7 : Int32) ≤ v1 then rJ91 fR v1 q7 (wI (wI m5 49 22 ((rI m5 49 22) + (1 : Int32))) q7 (ix (0 : Int32)) v1)
      else gd (okO (wI (wI m5 49 22 ((rI m5 49 22) + (1 : Int32))) q7 (ix (0 : Int32)) v1) 49 12) (oc (rR (wI (wI m5 49 22 ((rI m5 49 22) + (1 : Int32))) q7 (ix (0 : Int32)) v1) 49 12) none fun q35 => gd (okA (wI (wI m5 49 22 ((rI m5 49 22) + (1 : Int32))) q7 (ix (0 : Int32)) v1) 100 q35 (0 : Int32)) (gd (okO (wI (wI m5 49 22 ((rI m5 49 22) + (1 : Int32))) q7 (ix (0 : Int32)) v1) 49 12) (bd (F_X12_number 49 (0 : Int32) ((rI (wI (wI m5 49 22 ((rI m5 49 22) + (1 : Int32))) q7 (ix (0 : Int32)) v1) q35 (ix (0 : Int32))) - (1 : Int32)) (wI (wI m5 49 22 ((rI m5 49 22) + (1 : Int32))) q7 (ix (0 : Int32)) v1)) fun r36 m37 => gd (okA m37 100 q7 (1 : Int32)) (rJ91 fR v1 q7 (wI m37 q7 (ix (1 : Int32)) r36)))))))))))) else some ((), m))
def rJ19 (fR : Nat → Mm → Option (Unit × Mm)) (v1 : Int32) (m : Mm) : Option (Unit × Mm) :=
  if v1 = (10 : Int32) then gd (okO m 49 12) (bd (F_X12_opensOne 49 m) fun r39 m40 => if r39 = 0 then some ((), m40) else rJ33 fR v1 m40) else rJ33 fR v1 m
theorem rs_head (fR : Nat → Mm → Option (Unit × Mm)) (m : Mm) : B_X12_readsStep fR 49 m = gd (okO m 49 12) (bd (F_X12_stepHere 49 m) fun r1 m2 => if r1 = (-1 : Int32) then gd (okO m2 49 12) (gd (okO m2 49 12) (bd (F_X12_wrong 49 (1 : Int32) (rI m2 49 4) m2) fun _ m42 => rJ19 fR r1 m42)) else rJ19 fR r1 m2) := by
  unfold B_X12_readsStep rJ19 rJ33 rJ91 rJ106 rJ122 rJ195
  simp only [lt9_e, jn_e]
theorem ix3 : ix (3 : Int32) = 3 := by decide
theorem ix2 : ix (2 : Int32) = 2 := by decide
theorem ix1 : ix (1 : Int32) = 1 := by decide
theorem ix0' : ix (0 : Int32) = 0 := by decide
theorem row_k {m : Mm} (g : G m) {h j : Nat} (hh : h < 80) (hj : j < 4) : okA m 100 (392 + 1 + h) (no_index (OfNat.ofNat j) : Int32) = true := gC392 g hh hj
/-- a step's row -/
def RQ (h : Nat) (q : Q4) (m : Mm) : Prop := rI m (392 + 1 + h) 0 = ni q.1 ∧ (q.1 ≠ 8 → q.1 ≠ 9 → rI m (392 + 1 + h) 1 = ni q.2.1) ∧ (q.1 = 0 → rI m (392 + 1 + h) 2 = ni q.2.2.1) ∧ (q.1 ≠ 10 → rI m (392 + 1 + h) 3 = ni (h + 1)) ∧ (q.1 = 10 → q.2.2.2 ≠ 0 → rI m (392 + 1 + h) 3 = ni q.2.2.2)
theorem WQ_add {acc : List Q4} {q : Q4} {m : Mm} (h : WQ acc m) (r : RQ acc.length q m) : WQ (acc ++ [q]) m := by
  intro i hi
  rw [len_q] at hi
  rw [getD_s]
  by_cases e : i = acc.length
  · rw [if_pos e, e]
    exact r
  · rw [if_neg e]
    exact h i (by omega)
theorem RE_Rs {x : Nat → Nat} {n k p a : Nat} {m m' : Mm} (h : RE x n k p m) (r : Rs m m') (h4 : rI m' 49 4 = ni a) (ha : a ≤ n) : RE x n k p m' := ⟨TR_s h.1 r, (r.2 5 (by omega)).trans h.2.1, (r.2 6 (by omega)).trans h.2.2.1, h.2.2.2.1, h.2.2.2.2.1, a, ha, h4⟩
/-- the end of a step, at a fault -/
theorem r_J195f {x : Nat → Nat} {n k p h : Nat} {m : Mm} (r : RE x n k p m) (hh : h < 80) : ∃ m', rJ195 (392 + 1 + h) m = some ((), m') ∧ RE x n k p m' ∧ Hq m m' := by
  obtain ⟨z1, z2⟩ := RE_r (h := h) (j := 3) (v := rI m 49 22) r hh
  have g := r.1.1
  have g' := z1.1.1
  refine ⟨_, ?_, z1, z2⟩
  unfold rJ195
  simp only [ix3, gO49 g, row_k g hh (show 3 < 4 by omega), gO49 g', gd_t, bdE (r_sign0 (k := 59) g' (RE_5 z1))]
/-- the end of a good step -/
theorem r_J195g {x : Nat → Nat} {n N a o : Nat} {acc : List Q4} {q : Q4} {m : Mm} (r : RW x n N a o (acc.length + 1) acc m) (hh : acc.length < 80) (hq : rI m (392 + 1 + acc.length) 0 = ni q.1 ∧ (q.1 ≠ 8 → q.1 ≠ 9 → rI m (392 + 1 + acc.length) 1 = ni q.2.1) ∧ (q.1 = 0 → rI m (392 + 1 + acc.length) 2 = ni q.2.2.1)) (hn : q.1 ≠ 10) :
    (∀ e, sgnP x n a 59 = .inl e → ∃ m', rJ195 (392 + 1 + acc.length) m = some ((), m') ∧ RW x n N e o (acc.length + 1) (acc ++ [q]) m' ∧ Hq m m' ∧ a < e) ∧
    (∀ k p, sgnP x n a 59 = .inr (k, p) → ∃ m', rJ195 (392 + 1 + acc.length) m = some ((), m') ∧ RE x n k p m' ∧ Hq m m') := by
  obtain ⟨z1, z2⟩ := RW_r (h := acc.length) (j := 3) (v := rI m 49 22) r (Nat.le_refl _) hh
  have g := r.1.1
  have g' := z1.1.1
  have h22 := r.2.2.2.2.2.1
  have z1' : RW x n N a o (acc.length + 1) (acc ++ [q]) (wI m (392 + 1 + acc.length) 3 (rI m 49 22)) := by
    obtain ⟨y1, y2, y3, y4, y5, y6, y7, y8⟩ := z1
    refine ⟨y1, y2, y3, y4, y5, y6, WQ_add y7 ⟨?_, fun z1 z2 => ?_, fun z => ?_, fun _ => ?_, fun z => absurd z hn⟩, y8⟩
    · rw [rIw, uf_ne (by omega)]
      exact hq.1
    · rw [rIw, uf_ne (by omega)]
      exact hq.2.1 z1 z2
    · rw [rIw, uf_ne (by omega)]
      exact hq.2.2 z
    · rw [rIw, uf_at, h22]
  obtain ⟨s1, s2⟩ := rw_sg (cc := 59) z1' (by omega)
  rw [show ni 59 = 59 from rfl] at s1 s2
  unfold rJ195
  refine ⟨fun e w => ?_, fun k p w => ?_⟩
  · obtain ⟨m', u1, u2, u3, u4⟩ := s1 e w
    refine ⟨m', ?_, u3, Hq_trans z2 (Rs_Hq u2), u4⟩
    simp only [ix3, gO49 g, row_k g hh (show 3 < 4 by omega), gO49 g', gd_t, bdE u1]
  · obtain ⟨m', u1, u2, u3⟩ := s2 k p w
    refine ⟨m', ?_, u2, Hq_trans z2 u3⟩
    simp only [ix3, gO49 g, row_k g hh (show 3 < 4 by omega), gO49 g', gd_t, bdE u1]
def HSp (x : Nat → Nat) (n N o : Nat) (P : List Q4 → Nat → SR) (F : Nat → Mm → Option (Unit × Mm)) : Prop := ∀ (acc : List Q4) (a : Nat) (m : Mm), RW x n N a o acc.length acc m → blk x n a = a → 4 * acc.length ≤ a →
  (∀ acc' e, P acc a = .inl (acc', e) → ∃ m', F 49 m = some ((), m') ∧ Hq m m' ∧ RW x n N e o acc'.length acc' m' ∧ a < e ∧ 4 * acc'.length ≤ e) ∧
  (∀ k p, P acc a = .inr (k, p) → ∃ m', F 49 m = some ((), m') ∧ Hq m m' ∧ RE x n k p m')
theorem r_stsL {x : Nat → Nat} {n N o k v2 : Nat} {S : List Q4 → Nat → SR} {fR : Nat → Mm → Option (Unit × Mm)} {K : Nat → Nat → Mm → Option (Unit × Mm)} (hn : n ≤ 150) (hF : HSp x n N o (stqP x n N S k) fR) :
    ∀ (g f : Nat) (acc : List Q4) (a : Nat) (m : Mm), n - a + 1 < g → n - a < f → RW x n N a o acc.length acc m → blk x n a = a → 4 * acc.length ≤ a →
      (∀ acc' e, stsP x n N false S k f acc a = .inl (acc', e) → ∃ m', L_X12_readsStep_148 fR K g 49 v2 m = K 49 v2 m' ∧ Hq m m' ∧ RW x n N e o acc'.length acc' m' ∧ a ≤ e ∧ 4 * acc'.length ≤ e) ∧
      (∀ kk p, stsP x n N false S k f acc a = .inr (kk, p) → ∃ m', L_X12_readsStep_148 fR K g 49 v2 m = K 49 v2 m' ∧ Hq m m' ∧ RE x n kk p m') := by
  intro g
  induction g with
  | zero =>
    intro f acc a m h1
    omega
  | succ g ih =>
    intro f acc a m hg hf r hbb hl
    obtain ⟨f, rfl⟩ : ∃ z, f = z + 1 := ⟨f - 1, by omega⟩
    obtain ⟨t, h4, han, h5, h8, h22, wq, h53⟩ := id r
    have gg := t.1
    have h6 := t.2.1
    have hby := r_byteAt (a := a) t (by omega)
    have h93 := chr_c (n := n) (a := a) (c := 93) (TR_x t) (by omega)
    rw [show ni 93 = 93 from rfl] at h93
    rw [stsP, hbb]
    simp only [reduceCtorEq, if_false]
    by_cases q1 : a < n ∧ x a = 93
    · rw [if_pos q1]
      refine ⟨fun acc' e z => ?_, fun k p z => (by cases z)⟩
      cases z
      refine ⟨m, ?_, Hq_refl m, r, Nat.le_refl _, hl⟩
      have e1 := eq_true (h93.mpr q1)
      rw [L_X12_readsStep_148]
      simp only [gO49 gg, gd_t, h5, if_true, h4, bdE hby, e1]
    · rw [if_neg q1]
      have e1 := eq_false (fun z => q1 (h93.mp z))
      obtain ⟨s1, s2⟩ := hF acc a m r hbb hl
      unfold stqP at s1 s2
      have fault : ∀ kk p, (∃ m', fR 49 m = some ((), m') ∧ Hq m m' ∧ RE x n kk p m') → ∃ m', L_X12_readsStep_148 fR K (g + 1) 49 v2 m = K 49 v2 m' ∧ Hq m m' ∧ RE x n kk p m' := by
        rintro kk p ⟨m1, x1, x2, x3⟩
        obtain ⟨a', ha', h4'⟩ := x3.2.2.2.2.2
        obtain ⟨m2, b1, b2, b3⟩ := r_blanks x3.1 h4' ha'
        have hb' := blk_le (x := x) ha'
        have re2 := RE_Rs x3 b2 b3 hb'.2
        have g2 := re2.1.1
        refine ⟨m2, ?_, Hq_trans x2 (Rs_Hq b2), re2⟩
        obtain ⟨g, rfl⟩ : ∃ z, g = z + 1 := ⟨g - 1, by omega⟩
        rw [L_X12_readsStep_148]
        simp only [gO49 gg, gO49 x3.1.1, gd_t, h5, if_true, h4, bdE hby, e1, if_false, bdE x1, bdE b1]
        rw [L_X12_readsStep_148]
        simp only [gO49 g2, gd_t, RE_5 re2, if_false]
      cases p1 : stP x n N S k acc a with
      | inr q =>
        obtain ⟨kk, p⟩ := q
        rw [p1] at s2
        refine ⟨fun acc' e z => (by cases z), fun k p z => ?_⟩
        cases z
        exact fault kk p (s2 kk p rfl)
      | inl q =>
        obtain ⟨acc1, e⟩ := q
        rw [p1] at s1 s2
        dsimp only at s1 s2 ⊢
        cases p2 : sgnP x n e 59 with
        | inr q =>
          obtain ⟨kk, p⟩ := q
          rw [p2] at s2
          refine ⟨fun acc' e z => (by cases z), fun k p z => ?_⟩
          cases z
          exact fault kk p (s2 kk p rfl)
        | inl e2 =>
          rw [p2] at s1
          obtain ⟨m1, x1, x2, x3, x4, x5⟩ := s1 acc1 e2 rfl
          have he := x3.2.2.1
          obtain ⟨m2, b1, b2, b3⟩ := r_blanks x3.1 x3.2.1 he
          have hb := blk_le (x := x) he
          have r2 := RW_s x3 b2 b3 hb.2
          have zz := ih f acc1 (blk x n e2) m2 (by omega) (by omega) r2 (blk_blk he) (by omega)
          have hG : stsP x n N false S k f acc1 e2 = stsP x n N false S k f acc1 (blk x n e2) := by
            cases f with
            | zero => omega
            | succ f => rw [stsP, stsP, blk_blk he]
          have hp : L_X12_readsStep_148 fR K (g + 1) 49 v2 m = L_X12_readsStep_148 fR K g 49 v2 m2 := by
            rw [L_X12_readsStep_148]
            simp only [gO49 gg, gO49 x3.1.1, gd_t, h5, if_true, h4, bdE hby, e1, if_false, bdE x1, bdE b1]
          dsimp only
          rw [hp, hG]
          have qq := Hq_trans x2 (Rs_Hq b2)
          refine ⟨fun acc' e' u => ?_, fun k p u => ?_⟩
          · obtain ⟨m3, r1, r2, r3, r4, r5⟩ := zz.1 acc' e' u
            exact ⟨m3, r1, Hq_trans qq r2, r3, by omega, r5⟩
          · obtain ⟨m3, r1, r2, r3⟩ := zz.2 k p u
            exact ⟨m3, r1, Hq_trans qq r2, r3⟩
