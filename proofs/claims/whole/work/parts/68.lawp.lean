/-! L2: the text of a law: pure, and the class's reading. -/
abbrev LR : Type := (List Nat × Nat) ⊕ (Nat × Nat)
/-- the word at b: 1000 member, 1001 age, 1002 view, 1003 size, 1004 least, 1005 most, 0 none -/
def kwL (x : Nat → Nat) (n b : Nat) : Nat :=
  if isW x b (wE x n b) (sN 0) = true then 1000 else if isW x b (wE x n b) (sN 2) = true then 1001 else if isW x b (wE x n b) (sN 3) = true then 1002 else if isW x b (wE x n b) (sN 4) = true then 1003 else if isW x b (wE x n b) (sN 5) = true then 1004 else if isW x b (wE x n b) (sN 6) = true then 1005 else 0
def pairP (x : Nat → Nat) (n : Nat) (S : List Nat → Nat → LR) (c : Nat) (acc : List Nat) (e : Nat) : LR := match sgnP x n e 91 with
  | .inr q => .inr q
  | .inl e1 => match S acc e1 with
    | .inr q => .inr q
    | .inl (acc1, e2) => match sgnP x n e2 44 with
      | .inr q => .inr q
      | .inl e3 => match S acc1 e3 with
        | .inr q => .inr q
        | .inl (acc2, e4) => match sgnP x n e4 93 with
          | .inr q => .inr q
          | .inl e5 => .inl (acc2 ++ [c], e5)
def wordP (x : Nat → Nat) (n : Nat) (S : List Nat → Nat → LR) (k : Nat) (acc : List Nat) (b : Nat) : LR :=
  if isL x n b = false then .inr (1, b) else if kwL x n b = 0 then .inr (1, b) else if kwL x n b < 1004 then .inl (acc ++ [kwL x n b], wE x n b)
  else if k = 0 then .inr (3, b) else pairP x n S (kwL x n b) acc (wE x n b)
def parP (x : Nat → Nat) (n : Nat) (S : List Nat → Nat → LR) (acc : List Nat) (a : Nat) : LR := match S acc a with
  | .inr q => .inr q
  | .inl (acc1, e) => match sgnP x n e 41 with
    | .inr q => .inr q
    | .inl e2 => .inl (acc1, e2)
def oneP (x : Nat → Nat) (n : Nat) (S : List Nat → Nat → LR) (k : Nat) (acc : List Nat) (a : Nat) : LR :=
  if isD x n (blk x n a) = true then (match numP x n (blk x n a) 0 1000 with
    | .inr q => .inr q
    | .inl (v, e) => .inl (acc ++ [v], e))
  else if blk x n a < n ∧ x (blk x n a) = 40 then (if k = 0 then .inr (3, blk x n a) else parP x n S acc (blk x n a + 1))
  else wordP x n S k acc (blk x n a)
/-- the sign at b: 1008 times, 1009 through, 1010 rest; 1006 and, 1007 less; 0 none -/
def sgL (x : Nat → Nat) (n b : Nat) : Nat :=
  if b < n then (if x b = 42 then 1008 else if x b = 47 then 1009 else if x b = 37 then 1010 else if x b = 43 then 1006 else if x b = 45 then 1007 else 0) else 0
def prP (x : Nat → Nat) (n : Nat) (U : List Nat → Nat → LR) : Nat → List Nat → Nat → LR
  | 0, acc, a => .inl (acc, a)
  | f + 1, acc, a => if 1008 ≤ sgL x n (blk x n a) then (match U acc (blk x n a + 1) with
      | .inr q => .inr q
      | .inl (acc1, e) => prP x n U f (acc1 ++ [sgL x n (blk x n a)]) e)
    else .inl (acc, blk x n a)
def prodP (x : Nat → Nat) (n : Nat) (U : List Nat → Nat → LR) (acc : List Nat) (a : Nat) : LR := match U acc a with
  | .inr q => .inr q
  | .inl (acc1, e) => prP x n U 151 acc1 e
def smP (x : Nat → Nat) (n : Nat) (U : List Nat → Nat → LR) : Nat → List Nat → Nat → LR
  | 0, acc, a => .inl (acc, a)
  | f + 1, acc, a => if 1006 ≤ sgL x n (blk x n a) then (match prodP x n U acc (blk x n a + 1) with
      | .inr q => .inr q
      | .inl (acc1, e) => smP x n U f (acc1 ++ [sgL x n (blk x n a)]) e)
    else .inl (acc, blk x n a)
def sumP (x : Nat → Nat) (n : Nat) (U : List Nat → Nat → LR) (acc : List Nat) (a : Nat) : LR := match prodP x n U acc a with
  | .inr q => .inr q
  | .inl (acc1, e) => smP x n U 151 acc1 e
def sumL (x : Nat → Nat) (n : Nat) : Nat → List Nat → Nat → LR
  | 0 => sumP x n (oneP x n (fun _ _ => .inr (1, 0)) 0)
  | k + 1 => sumP x n (oneP x n (sumL x n k) (k + 1))
/-! the class's -/
def LD (qd : Nat) (acc : List Nat) (m : Mm) : Prop := G m ∧ rR m 4 1 = some qd ∧ (qd = 5 ∨ qd = 6) ∧ rI m 4 4 = ni acc.length ∧ acc.length ≤ 150 ∧ ∀ i, i < acc.length → rI m qd i = ni (acc.getD i 0)
def Ls (qd : Nat) (m m' : Mm) : Prop := Fm (fun b => b = 1 ∨ b = 4 ∨ b = qd) m m' ∧ (∀ j, j < 3 ∨ 6 ≤ j → rI m' 1 j = rI m 1 j) ∧ (∀ j, j ≠ 4 → rI m' 4 j = rI m 4 j)
def Lf (qd k p : Nat) (m m' : Mm) : Prop := Fm (fun b => b = 1 ∨ b = 4 ∨ b = qd) m m' ∧ (∀ j, j < 3 → rI m' 1 j = rI m 1 j) ∧ rI m' 1 6 = ni k ∧ rI m' 1 7 = ni p ∧ (∀ j, j ≠ 4 → rI m' 4 j = rI m 4 j) ∧ ∃ d, d ≤ 150 ∧ rI m' 4 4 = ni d
theorem Ls_refl (qd : Nat) (m : Mm) : Ls qd m m := ⟨Fm_refl _ _, fun _ _ => rfl, fun _ _ => rfl⟩
theorem Ls_trans {qd : Nat} {m m1 m2 : Mm} (h : Ls qd m m1) (h' : Ls qd m1 m2) : Ls qd m m2 := ⟨Fm_trans h.1 h'.1, fun j hj => (h'.2.1 j hj).trans (h.2.1 j hj), fun j hj => (h'.2.2 j hj).trans (h.2.2 j hj)⟩
theorem Ls_Lf {qd k p : Nat} {m m1 m2 : Mm} (h : Ls qd m m1) (h' : Lf qd k p m1 m2) : Lf qd k p m m2 := ⟨Fm_trans h.1 h'.1, fun j hj => (h'.2.1 j hj).trans (h.2.1 j (by omega)), h'.2.2.1, h'.2.2.2.1, fun j hj => (h'.2.2.2.2.1 j hj).trans (h.2.2 j hj), h'.2.2.2.2.2⟩
theorem Ts_Ls {qd : Nat} {m m' : Mm} (h : Ts m m') : Ls qd m m' := ⟨Fm_mono (fun _ q => .inl q) h.1, h.2, fun j _ => by rw [(h.1.1 4 (by omega)).1]⟩
theorem Tf_Lf {qd k p : Nat} {acc : List Nat} {m m' : Mm} (h : Tf k p m m') (d : LD qd acc m) : Lf qd k p m m' := ⟨Fm_mono (fun _ q => .inl q) h.1, h.2.1, h.2.2.1, h.2.2.2, fun j _ => by rw [(h.1.1 4 (by omega)).1], acc.length, d.2.2.2.2.1, by rw [(h.1.1 4 (by omega)).1]; exact d.2.2.2.1⟩
theorem TC_L {x : Nat → Nat} {n qd : Nat} {m m' : Mm} (c : TC x n m) (h : Ls qd m m') (hq : qd = 5 ∨ qd = 6) : TC x n m' := by
  obtain ⟨g, c1, c2, c3⟩ := c
  refine ⟨G_fr h.1 g, c1, (h.2.1 2 (by omega)).trans c2, ?_⟩
  rw [(h.1.1 2 (by omega)).1]
  exact c3
theorem LD_s {qd : Nat} {acc : List Nat} {m m' : Mm} (d : LD qd acc m) (h : Ts m m') : LD qd acc m' := by
  obtain ⟨d1, d2, d3, d4, d5, d6⟩ := d
  refine ⟨G_fr h.1 d1, by rw [h.1.2.1]; exact d2, d3, by rw [(h.1.1 4 (by omega)).1]; exact d4, d5, ?_⟩
  rw [(h.1.1 qd (by omega)).1]
  exact d6
theorem LD_f {qd : Nat} {acc : List Nat} {k p : Nat} {m m' : Mm} (d : LD qd acc m) (h : Tf k p m m') : LD qd acc m' := by
  obtain ⟨d1, d2, d3, d4, d5, d6⟩ := d
  refine ⟨G_fr h.1 d1, by rw [h.1.2.1]; exact d2, d3, by rw [(h.1.1 4 (by omega)).1]; exact d4, d5, ?_⟩
  rw [(h.1.1 qd (by omega)).1]
  exact d6
theorem okA_q {qd i : Nat} {m : Mm} (g : G m) (hq : qd = 5 ∨ qd = 6) (hi : i < 150) : okA m 100 qd (ni i) = true := by
  rcases hq with rfl | rfl
  · exact gA5 g hi
  · exact gA6 g hi
theorem okT_q {qd : Nat} {m : Mm} (g : G m) (hq : qd = 5 ∨ qd = 6) : okT m 100 qd = true ∧ ln m qd = ni 150 := by
  rcases hq with rfl | rfl
  · exact ⟨gT5 g, gN5 g⟩
  · exact ⟨gT6 g, gN6 g⟩
/-- a code more: whatever it is -/
theorem c_emit0 {qd d : Nat} {v : Int32} {m : Mm} (g : G m) (h1 : rR m 4 1 = some qd) (hq : qd = 5 ∨ qd = 6) (h4 : rI m 4 4 = ni d) (hd : d ≤ 150) :
    ∃ m', F_X3_emit 4 v m = some ((), m') ∧ Fm (fun b => b = 4 ∨ b = qd) m m' ∧ (∀ j, j ≠ 4 → rI m' 4 j = rI m 4 j) ∧ (∃ d', d' ≤ 150 ∧ rI m' 4 4 = ni d') ∧ (d < 150 → rI m' 4 4 = ni (d + 1) ∧ rI m' qd = uf (rI m qd) d v) := by
  unfold F_X3_emit
  obtain ⟨t1, t2⟩ := okT_q g hq
  by_cases q : d < 150
  · have a1 := okA_q g hq q
    have hle : ¬ 150 ≤ d := by omega
    have hne : qd ≠ 4 := by omega
    refine ⟨wI (wI m qd d v) 4 4 (ni (d + 1)), ?_, Fm_wI (Fm_wI (Fm_refl _ _) (.inr rfl)) (.inl rfl), fun j hj => ?_, ⟨d + 1, by omega, by rw [rIw, uf_at]⟩, fun _ => ⟨by rw [rIw, uf_at], ?_⟩⟩
    · have n4 : ¬ (4 : Nat) = qd := fun z => hne z.symm
      simp (disch := first | omega | decide) only [gO4 g, okOwI, okAwI, rRwI, gd_t, h1, oc_s, t1, t2, h4, ni_le, hle, if_false, a1, lt9_e, ix_ni, rIwIk, n4, false_and, nil_add]
    · rw [rIw, uf_ne hj, rIw_ne (by omega)]
    · rw [rIw_ne hne, rIw]
  · have hle : 150 ≤ d := by omega
    refine ⟨m, ?_, Fm_refl _ _, fun _ _ => rfl, ⟨d, hd, h4⟩, fun z => absurd z q⟩
    simp (disch := first | omega | decide) only [gO4 g, gd_t, h1, oc_s, t1, t2, h4, ni_le, hle, if_true]
theorem c_emit {qd v : Nat} {acc : List Nat} {m : Mm} (d : LD qd acc m) (hl : acc.length < 150) : ∃ m', F_X3_emit 4 (ni v) m = some ((), m') ∧ LD qd (acc ++ [v]) m' ∧ Ls qd m m' ∧ rI m' 1 = rI m 1 := by
  obtain ⟨d1, d2, d3, d4, d5, d6⟩ := d
  obtain ⟨m', e1, e2, e3, _, e5⟩ := c_emit0 (v := ni v) d1 d2 d3 d4 d5
  obtain ⟨e6, e7⟩ := e5 hl
  have hlen : (acc ++ [v]).length = acc.length + 1 := by rw [List.length_append]; rfl
  have h1 : rI m' 1 = rI m 1 := (e2.1 1 (by omega)).1
  refine ⟨m', e1, ⟨G_fr e2 d1, by rw [e2.2.1]; exact d2, d3, by rw [hlen]; exact e6, by omega, fun i hi => ?_⟩, ⟨Fm_mono (fun b hb => by omega) e2, fun j _ => by rw [h1], e3⟩, h1⟩
  rw [e7, uf_ap]
  by_cases q : i = acc.length
  · rw [if_pos q, q, List.getD_eq_getElem?_getD, List.getElem?_append_right (Nat.le_refl _), Nat.sub_self]
    rfl
  · rw [if_neg q, List.getD_eq_getElem?_getD, List.getElem?_append_left (by omega), ← List.getD_eq_getElem?_getD]
    exact d6 i (by omega)
/-- a code more behind a fault -/
theorem c_emitF {qd k p : Nat} {v : Int32} {m0 m : Mm} (h : Lf qd k p m0 m) (g : G m) (h1 : rR m 4 1 = some qd) (hq : qd = 5 ∨ qd = 6) : ∃ m', F_X3_emit 4 v m = some ((), m') ∧ Lf qd k p m0 m' := by
  obtain ⟨f1, f2, f3, f4, f5, d, hd, f6⟩ := h
  obtain ⟨m', e1, e2, e3, e4, _⟩ := c_emit0 (v := v) g h1 hq f6 hd
  have h1 : rI m' 1 = rI m 1 := (e2.1 1 (by omega)).1
  exact ⟨m', e1, Fm_trans f1 (Fm_mono (fun b hb => by omega) e2), fun j hj => by rw [h1]; exact f2 j hj, by rw [h1]; exact f3, by rw [h1]; exact f4, fun j hj => (e3 j hj).trans (f5 j hj), e4⟩
theorem Lf_G {qd k p : Nat} {acc : List Nat} {m m' : Mm} (h : Lf qd k p m m') (d : LD qd acc m) : G m' ∧ rR m' 4 1 = some qd := ⟨G_fr h.1 d.1, by rw [h.1.2.1]; exact d.2.1⟩
theorem c_joint {x : Nat → Nat} {n b : Nat} {m : Mm} (hx : b < n → x b < 256) : F_X3_joint (chr x n b) m = some (if sgL x n b = 0 then -1 else ni (sgL x n b), m) := by
  unfold F_X3_joint sgL chr
  by_cases q : b < n
  · have := hx q
    rw [if_pos q, if_pos q]
    generalize x b = v at *
    by_cases h37 : v = 37
    · subst h37
      rfl
    · by_cases h42 : v = 42
      · subst h42
        rfl
      · by_cases h43 : v = 43
        · subst h43
          rfl
        · by_cases h45 : v = 45
          · subst h45
            rfl
          · by_cases h47 : v = 47
            · subst h47
              rfl
            · simp (disch := first | omega | decide) only [nil_eq, h37, h42, h43, h45, h47, if_false, if_true, ite_self]
  · rw [if_neg q, if_neg q]
    rfl
theorem kwL_le (x : Nat → Nat) (n b : Nat) : kwL x n b = 0 ∨ (1000 ≤ kwL x n b ∧ kwL x n b ≤ 1005) := by
  unfold kwL
  repeat' split
  all_goals omega
theorem sgL_le (x : Nat → Nat) (n b : Nat) : sgL x n b = 0 ∨ (1006 ≤ sgL x n b ∧ sgL x n b ≤ 1010 ∧ b < n) := by
  unfold sgL
  repeat' split
  all_goals omega
theorem c_kindOf {x : Nat → Nat} {n b : Nat} {m : Mm} (c : TC x n m) (h3 : rI m 1 3 = ni (wE x n b)) (h4 : rI m 1 4 = ni b) (hb : b ≤ n) : F_X3_kindOf 1 m = some (if kwL x n b = 0 then -1 else ni (kwL x n b), m) := by
  have hw := wE_le (x := x) hb
  have z := fun k hk => c_isWord (k := k) c h3 h4 hw.1 hw.2 hk
  have z0 := z 0 (by omega)
  have z2 := z 2 (by omega)
  have z3 := z 3 (by omega)
  have z4 := z 4 (by omega)
  have z5 := z 5 (by omega)
  have z6 := z 6 (by omega)
  have g := c.1
  unfold F_X3_kindOf kwL
  cases q0 : isW x b (wE x n b) (sN 0)
  · rw [q0] at z0
    cases q2 : isW x b (wE x n b) (sN 2)
    · rw [q2] at z2
      cases q3 : isW x b (wE x n b) (sN 3)
      · rw [q3] at z3
        cases q4 : isW x b (wE x n b) (sN 4)
        · rw [q4] at z4
          cases q5 : isW x b (wE x n b) (sN 5)
          · rw [q5] at z5
            cases q6 : isW x b (wE x n b) (sN 6)
            · rw [q6] at z6
              simp only [gO1 g, gd_t, z0, z2, z3, z4, z5, z6, bd_s, b2i_f, if_true, reduceCtorEq, if_false]
            · rw [q6] at z6
              simp only [gO1 g, gd_t, z0, z2, z3, z4, z5, z6, bd_s, b2i_f, b2i_t, o10, if_true, reduceCtorEq, if_false]
              rfl
          · rw [q5] at z5
            simp only [gO1 g, gd_t, z0, z2, z3, z4, z5, bd_s, b2i_f, b2i_t, o10, if_true, reduceCtorEq, if_false]
            rfl
        · rw [q4] at z4
          simp only [gO1 g, gd_t, z0, z2, z3, z4, bd_s, b2i_f, b2i_t, o10, if_true, reduceCtorEq, if_false]
          rfl
      · rw [q3] at z3
        simp only [gO1 g, gd_t, z0, z2, z3, bd_s, b2i_f, b2i_t, o10, if_true, reduceCtorEq, if_false]
        rfl
    · rw [q2] at z2
      simp only [gO1 g, gd_t, z0, z2, bd_s, b2i_f, b2i_t, o10, if_true, reduceCtorEq, if_false]
      rfl
  · rw [q0] at z0
    simp only [gO1 g, gd_t, z0, bd_s, b2i_f, b2i_t, o10, if_true, reduceCtorEq, if_false]
    rfl
