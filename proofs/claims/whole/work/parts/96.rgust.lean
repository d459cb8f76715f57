/-! L2: the reference's gust. -/
theorem RC_36 {n len : Nat} {lim v : Int32} {cs : Nat → Nat} {m : Mm} (c : RC n lim len cs m) : RC n lim len cs (wI m 49 36 v) := by
  obtain ⟨c1, c2, c3, c4, c5, c6⟩ := c
  refine ⟨c1, by rw [rIw_ne (by omega)]; exact c2, by rw [rIw_ne (by omega)]; exact c3, c4, ?_, c6⟩
  unfold RLc at c5 ⊢
  rw [rIw, uf_ne (by omega)]
  rcases c5 with c5 | ⟨c5, c7⟩
  · exact .inl c5
  · refine .inr ⟨c5, fun i hi => ?_⟩
    rw [rIw_ne (by omega)]
    exact c7 i hi
/-- only the number drawn from, the row and the stack change -/
def Gw (w : Nat) (m m' : Mm) : Prop := Fm (fun b => AW w b ∨ b = 49) m m' ∧ ∀ j, j ≠ 36 → rI m' 49 j = rI m 49 j
theorem Gw_trans {w : Nat} {m m1 m2 : Mm} (h : Gw w m m1) (h' : Gw w m1 m2) : Gw w m m2 := ⟨Fm_trans h.1 h'.1, fun j hj => (h'.2 j hj).trans (h.2 j hj)⟩
theorem Gw_36 (w : Nat) (m : Mm) (v : Int32) : Gw w m (wI m 49 36 v) := ⟨Fm_wI (Fm_refl _ _) (.inr rfl), fun j hj => by rw [rIw, uf_ne hj]⟩
theorem Gw_w {w : Nat} {m m' : Mm} (hw : w = 473 ∨ w = 474) (f : Fm (AW w) m m') : Gw w m m' ∧ rI m' 49 = rI m 49 := by
  have e : rI m' 49 = rI m 49 := (f.1 49 (by unfold AW; omega)).1
  exact ⟨⟨Fm_mono (fun _ z => .inl z) f, fun j _ => by rw [e]⟩, e⟩
theorem r_gust {n len w B l a r : Nat} {cs : Nat → Nat} {x y : Int32} {σ : St} {m : Mm} (hw : w = 473 ∨ w = 474) (hn : 0 < n) (c : RC n (ni l) len cs m) (h : RR (rI m w) σ) (wf : WF n B σ) (hB : B + 2 < 1000000) (hl : l ≤ 30) (h36 : rI m 49 36 = x) (ea : a = dwN (dwS x) % n) (er : r = dwN (dwS (dwS x)) % 8) :
    ∃ m', F_X12_onceBy 49 w y m = some ((), m') ∧ RR (rI m' w) (gsS cs len n l (decide (y ≤ ni (dwN (dwS (dwS (dwS x))) % 16))) a r (dwN (dwS (dwS (dwS x))) % 100) σ) ∧ rI m' 49 36 = gsX r (dwS (dwS x)) ∧ Gw w m m' := by
  have g := c.1
  have hn6 := c.2.2.2.1
  have h53 := c.2.1
  have ha : a < n := by rw [ea]; exact Nat.mod_lt _ hn
  have hr : r < 8 := by rw [er]; exact Nat.mod_lt _ (by omega)
  have hd1 := r_draw g hn (by omega) h36
  rw [← ea] at hd1
  have hd2 := r_draw (k := 8) (m := wI m 49 36 (dwS x)) (x := dwS x) g (by omega) (by omega) (by rw [rIw, uf_at])
  rw [← er, show ni 8 = 8 from rfl] at hd2
  have c2 := RC_36 (v := dwS (dwS x)) (RC_36 (v := dwS x) c)
  have w2 := Gw_trans (Gw_36 w m (dwS x)) (Gw_36 w _ (dwS (dwS x)))
  have h2 : RR (rI (wI (wI m 49 36 (dwS x)) 49 36 (dwS (dwS x))) w) σ := by
    rw [rIw_ne (by omega), rIw_ne (by omega)]
    exact h
  have r2 : rI (wI (wI m 49 36 (dwS x)) 49 36 (dwS (dwS x))) 49 36 = dwS (dwS x) := by rw [rIw, uf_at]
  generalize em1 : wI m 49 36 (dwS x) = m1 at hd1 hd2 c2 w2 h2 r2
  generalize em2 : wI m1 49 36 (dwS (dwS x)) = m2 at hd2 c2 w2 h2 r2
  have g1 : G m1 := by rw [← em1]; exact g
  have g2 := c2.1
  have k2 := RC_MC c2 hw
  have hd3 := fun (k : Nat) (h1 : 0 < k) (h2 : k ≤ 100) => r_draw (k := k) g2 h1 h2 r2
  have c3 := RC_36 (v := dwS (dwS (dwS x))) c2
  have w3 := Gw_trans w2 (Gw_36 w _ (dwS (dwS (dwS x))))
  have h3 : RR (rI (wI m2 49 36 (dwS (dwS (dwS x)))) w) σ := by
    rw [rIw_ne (by omega)]
    exact h2
  have r3 : rI (wI m2 49 36 (dwS (dwS (dwS x)))) 49 36 = dwS (dwS (dwS x)) := by rw [rIw, uf_at]
  generalize em3 : wI m2 49 36 (dwS (dwS (dwS x))) = m3 at hd3 c3 w3 h3 r3
  have g3 := c3.1
  have k3 := RC_MC c3 hw
  have n2 : ∀ M, Fm (AW w) m2 M → rI M 49 36 = dwS (dwS x) ∧ Gw w m M := fun M fM => by
    obtain ⟨z1, z2⟩ := Gw_w hw fM
    exact ⟨by rw [z2]; exact r2, Gw_trans w2 z1⟩
  have n3 : ∀ M, Fm (AW w) m3 M → rI M 49 36 = dwS (dwS (dwS x)) ∧ Gw w m M := fun M fM => by
    obtain ⟨z1, z2⟩ := Gw_w hw fM
    exact ⟨by rw [z2]; exact r3, Gw_trans w3 z1⟩
  have l2 : ((2 : Int32) ≤ ni r) = (2 ≤ r) := by rw [show (2 : Int32) = ni 2 from rfl]; exact propext (ni_le (by omega) (by omega))
  have l5 : ((5 : Int32) ≤ ni r) = (5 ≤ r) := by rw [show (5 : Int32) = ni 5 from rfl]; exact propext (ni_le (by omega) (by omega))
  have ek : ∀ k : Nat, k < 8 → (ni r = ni k) = (r = k) := fun k hk => propext (ni_eq (by omega) (by omega))
  have e4 : (ni r = (4 : Int32)) = (r = 4) := ek 4 (by omega)
  have e5 : (ni r = (5 : Int32)) = (r = 5) := ek 5 (by omega)
  have e7 : (ni r = (7 : Int32)) = (r = 7) := ek 7 (by omega)
  unfold F_X12_onceBy gsS gsX
  by_cases q2 : r < 2
  · have p2 := eq_false (show ¬ 2 ≤ r by omega)
    have hd := hd3 100 (by omega) (by omega)
    rw [show ni 100 = 100 from rfl] at hd
    obtain ⟨m', x1, x2, x3, _⟩ := r_sends (a := a) (v := ni (dwN (dwS (dwS (dwS x))) % 100)) k3 h3 wf (by omega) hl
    obtain ⟨z1, z2⟩ := n3 m' (eq_AW x3)
    refine ⟨m', ?_, ?_, by rw [if_pos (show r < 2 ∨ r = 6 from .inl q2)]; exact z1, z2⟩
    · simp only [gO49 g, gO49 g1, gO49 g2, gO49 g3, gd_t, gR49_12 g, oc_s, gK53 (i := 0) g (by omega), ix0', h53, bdE hd1, lt9_e, bdE hd2, l2, p2, if_false, bdE hd, bdE x1]
    · rw [if_pos q2, sS0]
      exact x2
  · have p2 := eq_true (show 2 ≤ r by omega)
    by_cases q5 : 5 ≤ r
    · have p5 := eq_true q5
      by_cases h5 : r = 5
      · have p5' := eq_true h5
        obtain ⟨m', x1, x2, x3⟩ := UR_AW (r_tells (a := a) k2 h2 wf (by omega))
        obtain ⟨z1, z2⟩ := n2 m' x3
        refine ⟨m', ?_, ?_, by rw [if_neg (by omega)]; exact z1, z2⟩
        · simp only [gO49 g, gO49 g1, gO49 g2, gd_t, gR49_12 g, oc_s, gK53 (i := 0) g (by omega), ix0', h53, bdE hd1, lt9_e, bdE hd2, l2, p2, l5, p5, e5, p5', if_true, bdE x1]
        · rw [if_neg q2, if_neg (by omega), if_neg (by omega), if_pos h5, sS3]
          exact x2
      · have p5' := eq_false h5
        by_cases h7 : r = 7
        · have p7 := eq_true h7
          obtain ⟨m4, x1, x2, x3⟩ := r_holds hw wf c2 h2
          have c4 := RC_w c2 hw x3
          have wf4 : WF n (B + 1) (holdS cs len n σ).2 := by
            have z := WF_step (cs := cs) (len := len) (k := 8) (a := a) (v := 0) wf (by omega) hl (by omega) (fun z => by omega) (fun z => by omega)
            rw [sS8] at z
            exact z
          obtain ⟨m', u1, u2, u3⟩ := r_views hw wf4 c4 x2 hl (by omega)
          obtain ⟨z1, z2⟩ := n2 m' (Fm_trans x3 u3)
          refine ⟨m', ?_, ?_, by rw [if_neg (by omega)]; exact z1, z2⟩
          · simp only [gO49 g, gO49 g1, gO49 g2, gO49 c4.1, gd_t, gR49_12 g, oc_s, gK53 (i := 0) g (by omega), ix0', h53, bdE hd1, lt9_e, bdE hd2, l2, p2, l5, p5, e5, p5', e7, p7, if_true, if_false, bdE x1, bdE u1]
          · rw [if_neg q2, if_neg (by omega), if_neg (by omega), if_neg h5, if_neg (by omega), sS8, sS9]
            exact u2
        · have p7 := eq_false h7
          have h6 : r = 6 := by omega
          have hd := hd3 16 (by omega) (by omega)
          rw [show ni 16 = 16 from rfl] at hd
          rw [if_neg q2, if_neg (by omega), if_neg (by omega), if_neg h5, if_pos h6, if_pos (show r < 2 ∨ r = 6 from .inr h6)]
          by_cases hy : y ≤ ni (dwN (dwS (dwS (dwS x))) % 16)
          · have hy' := eq_true hy
            obtain ⟨m', x1, x2, x3⟩ := UR_AW (r_joins (a := a) k3 h3 (by omega))
            obtain ⟨z1, z2⟩ := n3 m' x3
            refine ⟨m', ?_, ?_, z1, z2⟩
            · simp only [gO49 g, gO49 g1, gO49 g2, gd_t, gR49_12 g, oc_s, gK53 (i := 0) g (by omega), ix0', h53, bdE hd1, lt9_e, bdE hd2, l2, p2, l5, p5, e5, p5', e7, p7, if_true, if_false, bdE hd, hy', bdE x1]
            · rw [decide_eq_true hy, if_pos rfl, sS6]
              exact x2
          · have hy' := eq_false hy
            obtain ⟨m', x1, x2, x3⟩ := UR_AW (r_crashes (a := a) k3 h3 (by omega))
            obtain ⟨z1, z2⟩ := n3 m' x3
            refine ⟨m', ?_, ?_, z1, z2⟩
            · simp only [gO49 g, gO49 g1, gO49 g2, gd_t, gR49_12 g, oc_s, gK53 (i := 0) g (by omega), ix0', h53, bdE hd1, lt9_e, bdE hd2, l2, p2, l5, p5, e5, p5', e7, p7, if_true, if_false, bdE hd, hy', bdE x1]
            · rw [decide_eq_false hy, if_neg (by decide), sS5]
              exact x2
    · have p5 := eq_false q5
      by_cases h4 : r = 4
      · have p4 := eq_true h4
        have z := r_takesOne (lost := true) (a := a) k2 h2 wf (by omega)
        simp only [if_true, b2i_t] at z
        obtain ⟨m', x1, x2, x3⟩ := UR_AW z
        obtain ⟨z1, z2⟩ := n2 m' x3
        refine ⟨m', ?_, ?_, by rw [if_neg (by omega)]; exact z1, z2⟩
        · simp only [gO49 g, gO49 g1, gO49 g2, gd_t, gR49_12 g, oc_s, gK53 (i := 0) g (by omega), ix0', h53, bdE hd1, lt9_e, jn_e, bdE hd2, l2, p2, l5, p5, e4, p4, if_true, if_false, bdE x1]
        · rw [if_neg q2, if_neg (by omega), if_pos h4, sS2]
          exact x2
      · have p4 := eq_false h4
        have z := r_takesOne (lost := false) (a := a) k2 h2 wf (by omega)
        simp only [Bool.false_eq_true, if_false, b2i_f] at z
        obtain ⟨m', x1, x2, x3⟩ := UR_AW z
        obtain ⟨z1, z2⟩ := n2 m' x3
        refine ⟨m', ?_, ?_, by rw [if_neg (by omega)]; exact z1, z2⟩
        · simp only [gO49 g, gO49 g1, gO49 g2, gd_t, gR49_12 g, oc_s, gK53 (i := 0) g (by omega), ix0', h53, bdE hd1, lt9_e, jn_e, bdE hd2, l2, p2, l5, p5, e4, p4, if_true, if_false, bdE x1]
        · rw [if_neg q2, if_pos (by omega), sS1]
          exact x2
