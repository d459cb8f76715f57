/-! L2: a group begun. -/
theorem nsP_lt {x : Nat → Nat} {n a lo h v e : Nat} (w : nsP x n a lo h = .inl (v, e)) : v < h := by
  unfold nsP at w
  cases e0 : numP x n a lo h with
  | inr f =>
    rw [e0] at w
    cases w
  | inl q =>
    obtain ⟨v', e'⟩ := q
    rw [e0] at w
    dsimp only at w
    cases e1 : sgnP x n e' 59 with
    | inr f =>
      rw [e1] at w
      cases w
    | inl e2 =>
      rw [e1] at w
      cases w
      exact numP_lt e0
theorem bel_v {many v : Nat} {ins : Int32} (hm : many < 6) (hv : v < 2) (h : bel many ins) : bel (many + 1) (ins ||| (ni v <<< (ni many &&& 31))) := by
  have h1 : ∀ k, k < 6 → ∀ v, v < 2 → bel (k + 1) (ni v <<< (ni k &&& 31)) := by
    intro k hk v hv j hj
    by_cases h32 : j < 32
    · have z : ∀ k, k < 6 → ∀ v, v < 2 → ∀ j, j < 32 → k + 1 ≤ j → tb (ni v <<< (ni k &&& 31)) j = false := by decide
      exact z k hk v hv j h32 hj
    · exact tb_ge (by omega)
  exact bel_or (bel_mono (by omega) h) (h1 many hm v hv)
theorem grp_ok {x : Nat → Nat} {n : Nat} : ∀ (f cl many lim a : Nat) (ins : Int32) (mm ll : Nat) (ii : Int32), many ≤ 6 → lim ≤ 30 → bel many ins → grpP x n f cl many ins lim a = .inl (mm, ii, ll) → mm ≤ 6 ∧ ll ≤ 30 ∧ bel mm ii := by
  intro f
  induction f with
  | zero =>
    intro cl many lim a ins mm ll ii h1 h2 h3 w
    rw [grpP] at w
    cases w
    exact ⟨h1, h2, h3⟩
  | succ f ih =>
    intro cl many lim a ins mm ll ii h1 h2 h3 w
    rw [grpP] at w
    by_cases q0 : n ≤ blk x n a
    · rw [if_pos q0] at w
      cases w
      exact ⟨h1, h2, h3⟩
    · rw [if_neg q0] at w
      by_cases q1 : isL x n (blk x n a) = false
      · rw [if_pos q1] at w
        cases w
      · rw [if_neg q1] at w
        by_cases q2 : isW x (blk x n a) (wE x n (blk x n a)) (sN 0) = true
        · rw [if_pos q2] at w
          by_cases q3 : cl = 60 ∨ many = 6
          · rw [if_pos q3] at w
            cases w
          · rw [if_neg q3] at w
            cases q4 : nsP x n (wE x n (blk x n a)) 0 2 with
            | inr q =>
              rw [q4] at w
              cases w
            | inl q =>
              obtain ⟨v, e⟩ := q
              rw [q4] at w
              have hv := nsP_lt q4
              exact ih _ _ _ _ _ _ _ _ (by omega) h2 (bel_v (by omega) hv h3) w
        · rw [if_neg q2] at w
          by_cases q5 : isW x (blk x n a) (wE x n (blk x n a)) (sN 1) = true
          · rw [if_pos q5] at w
            by_cases q3 : cl = 60
            · rw [if_pos q3] at w
              cases w
            · rw [if_neg q3] at w
              cases q4 : nsP x n (wE x n (blk x n a)) 1 31 with
              | inr q =>
                rw [q4] at w
                cases w
              | inl q =>
                obtain ⟨v, e⟩ := q
                rw [q4] at w
                have hv := nsP_lt q4
                exact ih _ _ _ _ _ _ _ _ h1 (by omega) h3 w
          · rw [if_neg q5] at w
            cases w
theorem grp_b {x : Nat → Nat} {n a cl many lim : Nat} {ins : Int32} (f : Nat) (ha : a ≤ n) : grpP x n (f + 1) cl many ins lim (blk x n a) = grpP x n (f + 1) cl many ins lim a := by
  rw [grpP, grpP, blk_blk ha]
/-! what a State begun holds -/
theorem gI_bgL (x : Int32) : ∀ (d i : Nat) (σ : St) (b j : Nat), gI (itn (beginF x) d i σ) b j = if b = 1 ∧ i ≤ j ∧ j < i + d then b2i (tb x j) else if (b = 5 ∨ b = 7) ∧ i ≤ j ∧ j < i + d then 0 else gI σ b j := by
  intro d
  induction d with
  | zero =>
    intro i σ b j
    rw [if_neg (by omega), if_neg (by omega)]
    rfl
  | succ d ih =>
    intro i σ b j
    show gI (itn (beginF x) d (i + 1) (beginF x i σ)) b j = _
    rw [ih]
    unfold beginF
    rw [gI_tL, gI_tI, gI_tI, gI_tI]
    by_cases e1 : b = 1 ∧ i ≤ j ∧ j < i + (d + 1)
    · rw [if_pos e1]
      by_cases e2 : j = i
      · rw [if_neg (by omega), if_neg (by omega), if_neg (by omega), if_neg (by omega), if_pos (by omega), e2]
      · rw [if_pos (by omega)]
    · rw [if_neg e1, if_neg (by omega)]
      by_cases e3 : (b = 5 ∨ b = 7) ∧ i ≤ j ∧ j < i + (d + 1)
      · rw [if_pos e3]
        by_cases e2 : j = i
        · rw [if_neg (by omega)]
          by_cases e4 : b = 7
          · rw [if_pos (by omega)]
          · rw [if_neg (by omega), if_pos (by omega)]
        · rw [if_pos (by omega)]
      · rw [if_neg e3, if_neg (by omega), if_neg (by omega), if_neg (by omega), if_neg (by omega)]
theorem gL_bgL (x : Int32) : ∀ (d i : Nat) (σ : St) (b j : Nat), gL (itn (beginF x) d i σ) b j = if b = 11 ∧ i ≤ j ∧ j < i + d then 0 else gL σ b j := by
  intro d
  induction d with
  | zero =>
    intro i σ b j
    rw [if_neg (by omega)]
    rfl
  | succ d ih =>
    intro i σ b j
    show gL (itn (beginF x) d (i + 1) (beginF x i σ)) b j = _
    rw [ih]
    unfold beginF
    rw [gL_tL, gL_tI, gL_tI, gL_tI]
    by_cases e1 : b = 11 ∧ i ≤ j ∧ j < i + (d + 1)
    · rw [if_pos e1]
      by_cases e2 : j = i
      · rw [if_neg (by omega), if_pos (by omega)]
      · rw [if_pos (by omega)]
    · rw [if_neg e1, if_neg (by omega), if_neg (by omega)]
section BG
variable (σ : St) (n : Nat) (x : Int32)
theorem bg_00 : gI (beginM σ n x) 0 0 = 1 := by unfold beginM; rw [gI_dropM, gI_bgL]; rfl
theorem bg_01 : gI (beginM σ n x) 0 1 = x := by unfold beginM; rw [gI_dropM, gI_bgL]; rfl
theorem bg_02 : gI (beginM σ n x) 0 2 = x := by unfold beginM; rw [gI_dropM, gI_bgL]; rfl
theorem bg_03 : gI (beginM σ n x) 0 3 = allB n := by unfold beginM; rw [gI_dropM, gI_bgL]; rfl
theorem bg_04 : gI (beginM σ n x) 0 4 = 0 := by unfold beginM; rw [gI_dropM, gI_bgL]; rfl
theorem bg_05 : gI (beginM σ n x) 0 5 = 0 := by unfold beginM; rw [gI_dropM, gI_bgL]; rfl
theorem bg_06 : gI (beginM σ n x) 0 6 = 0 := by unfold beginM; rw [gI_dropM, gI_bgL]; rfl
theorem bg_07 : gI (beginM σ n x) 0 7 = 0 := by unfold beginM; rw [gI_dropM]; rfl
theorem bg_1 {i : Nat} (hi : i < 6) : gI (beginM σ n x) 1 i = b2i (tb x i) := by
  unfold beginM
  rw [gI_dropM, show drz 1 i = false by simp [drz], if_neg (by decide), gI_bgL, if_pos (by omega)]
theorem bg_2 {i : Nat} (hi : i < 6) : gI (beginM σ n x) 2 i = 0 := by
  unfold beginM
  rw [gI_dropM, show drz 2 i = true by simp [drz, hi], if_pos rfl]
theorem bg_3 {i : Nat} (hi : i < 6) : gI (beginM σ n x) 3 i = 0 := by
  unfold beginM
  rw [gI_dropM, show drz 3 i = true by simp [drz, hi], if_pos rfl]
theorem bg_4 {i : Nat} (hi : i < 36) : gI (beginM σ n x) 4 i = 0 := by
  unfold beginM
  rw [gI_dropM, show drz 4 i = true by simp [drz, hi], if_pos rfl]
theorem bg_5 {i : Nat} (hi : i < 6) : gI (beginM σ n x) 5 i = 0 := by
  unfold beginM
  rw [gI_dropM, show drz 5 i = false by simp [drz], if_neg (by decide), gI_bgL, if_neg (by omega), if_pos (by omega)]
theorem bg_7 {i : Nat} (hi : i < 6) : gI (beginM σ n x) 7 i = 0 := by
  unfold beginM
  rw [gI_dropM, show drz 7 i = false by simp [drz], if_neg (by decide), gI_bgL, if_neg (by omega), if_pos (by omega)]
theorem bg_10 {i : Nat} (hi : i < 30) : gI (beginM σ n x) 10 i = 0 := by
  unfold beginM
  rw [gI_dropM, show drz 10 i = true by simp [drz, hi], if_pos rfl]
theorem bg_11 {i : Nat} (hi : i < 6) : gL (beginM σ n x) 11 i = 0 := by
  unfold beginM
  rw [gL_dropM, gL_bgL, if_pos (by omega)]
end BG
theorem WF_bg {n B : Nat} {x : Int32} (σ : St) (hn : n ≤ 6) (hx : bel n x) (hB : 1 ≤ B) (hM : B < 1000000) : WF n B (beginM σ n x) := by
  have i0 : ix (0 : Int32) = 0 := by decide
  have hm : mc (beginM σ n x) = 0 := by
    unfold mc
    rw [bg_07, i0]
  refine ⟨?_, ?_, hM⟩
  · rw [bg_01, bg_02, bg_03, bg_04, bg_05, bg_06]
    refine ⟨hn, hx, hx, allB_bel (by omega), bel_0 _, bel_0 _, bel_0 _, fun k hk => ?_, fun k hk => ?_, fun k hk => ?_, fun k hk => ?_⟩
    · rw [allB_tb (by omega)]
      by_cases e : k < n
      · exact decide_eq_true e
      · rw [hx k (by omega)] at hk
        cases hk
    · rw [tb_0] at hk
      cases hk
    · rw [tb_0] at hk
      cases hk
    · rw [tb_0] at hk
      cases hk
  · unfold WFa
    rw [hm]
    refine ⟨⟨bg_07 σ n x, by omega⟩, fun i hi => ?_, fun i hi => ?_, fun j hj => ?_, fun k hk j hj => ?_, fun k hk _ => bg_10 σ n x hk, fun k hk => by omega, fun i hi => ⟨0, by omega, bg_5 σ n x hi, fun z => by omega⟩, fun i hi => ⟨0, by omega, bg_7 σ n x hi⟩, ⟨1, by omega, hB, bg_00 σ n x, fun i hi => ?_⟩, fun i _ hi => ⟨bg_2 σ n x hi, bg_3 σ n x hi, fun j hj => bg_4 σ n x (by omega)⟩⟩
    · rw [bg_2 σ n x hi]
      exact bel_0 _
    · rw [bg_3 σ n x hi]
      exact bel_0 _
    · rw [bg_4 σ n x hj]
      exact bel_0 _
    · rw [bg_10 σ n x hk, tb_0] at hj
      cases hj
    · rw [bg_1 σ n x hi, bg_02]
      cases e : tb x i with
      | false => exact ⟨0, by omega, rfl, fun z => (by cases z), fun _ => bg_7 σ n x hi⟩
      | true => exact ⟨1, by omega, rfl, fun _ => by omega, fun z => (by cases z)⟩
/-- a row begun -/
def Bg (n : Nat) (x : Int32) (ρ : Nat → Int32) : Prop := (∀ i, i < 6 → ρ i = b2i (tb x i)) ∧ (∀ i, i < 6 → ρ (6 + i) = if tb x i = true then 0 else -1) ∧ (∀ j, 12 ≤ j → j < 968 → j ≠ 181 → j ≠ 182 → j ≠ 183 → j ≠ 184 → ρ j = 0) ∧ ρ 181 = 1 ∧ ρ 182 = x ∧ ρ 183 = x ∧ ρ 184 = allB n
theorem RR_bg {n : Nat} {x : Int32} {ρ : Nat → Int32} (σ : St) (h : Bg n x ρ) : RR ρ (beginM σ n x) := by
  obtain ⟨h1, h2, h0, a1, a2, a3, a4⟩ := h
  have i0 : ix (0 : Int32) = 0 := by decide
  have hi0 : hi9 0 = 0 := by decide
  have lo0 : lo9 0 = 0 := by decide
  refine ⟨fun i hi => ?_, fun i hi => ?_, fun i hi => ?_, fun i hi => ?_, fun i hi k => ?_, fun i hi => ?_, fun j hj => ?_, fun i hi j hj hl => ?_, fun k hk hl => ?_, fun k hk hl => ?_, ?_, ?_, ?_, ?_, ?_, ?_, ?_, ?_, fun i hi => ?_, fun i hi j hj hl => ?_⟩
  · rw [h1 i hi, bg_1 σ n x hi]
  · rw [h2 i hi, bg_1 σ n x hi, bg_7 σ n x hi]
    cases tb x i <;> rfl
  · rw [h0 _ (by omega) (by omega) (by omega) (by omega) (by omega) (by omega), bg_2 σ n x hi]
  · rw [h0 _ (by omega) (by omega) (by omega) (by omega) (by omega) (by omega), bg_3 σ n x hi]
  · rw [h0 _ (by omega) (by omega) (by omega) (by omega) (by omega) (by omega), tb_0]
    by_cases e : k < 30
    · rw [bg_10 σ n x e, tb_0, Bool.and_false]
    · rw [decide_eq_false e, Bool.false_and]
  · rw [h0 _ (by omega) (by omega) (by omega) (by omega) (by omega) (by omega), bg_5 σ n x hi]
  · rw [h0 _ (by omega) (by omega) (by omega) (by omega) (by omega) (by omega), bg_4 σ n x hj]
  · rw [bg_5 σ n x hi, i0] at hl
    omega
  · rw [bg_07, i0] at hl
    omega
  · rw [bg_07, i0] at hl
    omega
  · rw [bg_06, h0 _ (by omega) (by omega) (by omega) (by omega) (by omega) (by omega)]
  · rw [bg_00, a1]
  · rw [bg_01, a2]
  · rw [bg_02, a3]
  · rw [bg_03, a4]
  · rw [bg_04, h0 _ (by omega) (by omega) (by omega) (by omega) (by omega) (by omega)]
  · rw [bg_05, h0 _ (by omega) (by omega) (by omega) (by omega) (by omega) (by omega)]
  · rw [bg_07, h0 _ (by omega) (by omega) (by omega) (by omega) (by omega) (by omega)]
  · rw [bg_11 σ n x hi, hi0, lo0]
    exact ⟨h0 _ (by omega) (by omega) (by omega) (by omega) (by omega) (by omega), h0 _ (by omega) (by omega) (by omega) (by omega) (by omega) (by omega)⟩
  · rw [bg_7 σ n x hi, i0] at hl
    omega
/-! the reference begins anew -/
/-- what of its shape that needs -/
def GB (m : Mm) : Prop := (sH m)[49]? = some (12, 37) ∧ (sH m)[52]? = some (100, 3) ∧ (sH m)[53]? = some (100, 3) ∧ (sH m)[473]? = some (100, 968) ∧ rR m 49 11 = some 52 ∧ rR m 49 12 = some 53 ∧ rR m 49 23 = some 473
theorem GB_fr {A : Nat → Prop} {m m' : Mm} (f : Fm A m m') (h : GB m) : GB m' := by
  unfold GB
  rw [f.2.1, f.2.2.1]
  exact h
theorem GB_wI {m : Mm} {a j : Nat} {v : Int32} (h : GB m) : GB (wI m a j v) := h
theorem GB_G {m : Mm} (g : G m) : GB m := ⟨(g.1 49 (by omega)).trans sx49, (g.1 52 (by omega)).trans sx52, (g.1 53 (by omega)).trans sx53, (g.1 473 (by omega)).trans sx473, gR49_11 g, gR49_12 g, gR49_23 g⟩
theorem b49 {m : Mm} (g : GB m) : okO m 49 12 = true := okO_of g.1
theorem b52 {m : Mm} (g : GB m) {i : Nat} (h : i < 3) : okA m 100 52 (ni i) = true := okA_of g.2.1 h (by omega)
theorem b53 {m : Mm} (g : GB m) {i : Nat} (h : i < 3) : okA m 100 53 (ni i) = true := okA_of g.2.2.1 h (by omega)
theorem b53k {m : Mm} (g : GB m) {i : Nat} (h : i < 3) : okA m 100 53 (no_index (OfNat.ofNat i) : Int32) = true := okA_of g.2.2.1 h (by omega)
theorem b473 {m : Mm} (g : GB m) {i : Nat} (h : i < 968) : okA m 100 473 (ni i) = true := okA_of g.2.2.2.1 h (by omega)
theorem b473k {m : Mm} (g : GB m) {i : Nat} (h : i < 968) : okA m 100 473 (no_index (OfNat.ofNat i) : Int32) = true := okA_of g.2.2.2.1 h (by omega)
theorem b11 {m : Mm} (g : GB m) : rR m 49 11 = some 52 := g.2.2.2.2.1
theorem b12 {m : Mm} (g : GB m) : rR m 49 12 = some 53 := g.2.2.2.2.2.1
theorem b23 {m : Mm} (g : GB m) : rR m 49 23 = some 473 := g.2.2.2.2.2.2
theorem r_bgA {K : Nat → Mm → Option (Unit × Mm)} : ∀ (d i fuel : Nat) (m : Mm), i + d = 3 → d < fuel → GB m → ∃ m', L_X12_beginsAnew_2 K fuel 49 (ni i) m = K 49 m' ∧ Fm (fun b => b = 53) m m' ∧ (∀ j, i ≤ j → j < 3 → rI m' 53 j = rI m 52 j) ∧ (∀ j, j < i → rI m' 53 j = rI m 53 j) := by
  intro d
  induction d with
  | zero =>
    intro i fuel m hi hf g
    obtain ⟨fuel, rfl⟩ : ∃ z, fuel = z + 1 := ⟨fuel - 1, by omega⟩
    have e0 : i = 3 := by omega
    subst e0
    refine ⟨m, ?_, Fm_refl _ _, fun j h1 h2 => by omega, fun j _ => rfl⟩
    rw [L_X12_beginsAnew_2, if_pos (show (3 : Int32) ≤ ni 3 by decide)]
  | succ d ih =>
    intro i fuel m hi hf g
    obtain ⟨fuel, rfl⟩ : ∃ z, fuel = z + 1 := ⟨fuel - 1, by omega⟩
    have e : ¬ (3 : Int32) ≤ ni i := fun z => by
      rw [show (3 : Int32) = ni 3 from rfl, ni_le (by omega) (by omega)] at z
      omega
    obtain ⟨m', y1, y2, y3, y4⟩ := ih (i + 1) fuel (wI m 53 i (rI m 52 i)) (by omega) (by omega) (GB_wI g)
    refine ⟨m', ?_, Fm_trans (Fm_wI (Fm_refl _ _) rfl) y2, fun j h1 h2 => ?_, fun j hj => ?_⟩
    · rw [L_X12_beginsAnew_2, if_neg e]
      simp only [b49 g, gd_t, b12 g, b11 g, oc_s, b52 g (show i < 3 by omega), b53 g (show i < 3 by omega), lt9_e, ix_ni (show i < 2147483648 by omega), show ni i + 1 = ni (i + 1) from ni_add _ 1]
      exact y1
    · by_cases q : j = i
      · rw [y4 j (by omega), rIw, q, uf_at]
      · rw [y3 j (by omega) h2, rIw_ne (by omega)]
    · rw [y4 j (by omega), rIw, uf_ne (by omega)]
theorem r_bgB {K : Nat → Mm → Option (Unit × Mm)} : ∀ (d i fuel : Nat) (m : Mm), i + d = 968 → d < fuel → GB m → ∃ m', L_X12_beginsAnew_27 K fuel 49 (ni i) m = K 49 m' ∧ Fm (fun b => b = 473) m m' ∧ (∀ j, i ≤ j → j < 968 → rI m' 473 j = 0) ∧ (∀ j, j < i → rI m' 473 j = rI m 473 j) := by
  intro d
  induction d with
  | zero =>
    intro i fuel m hi hf g
    obtain ⟨fuel, rfl⟩ : ∃ z, fuel = z + 1 := ⟨fuel - 1, by omega⟩
    have e0 : i = 968 := by omega
    subst e0
    refine ⟨m, ?_, Fm_refl _ _, fun j h1 h2 => by omega, fun j _ => rfl⟩
    rw [L_X12_beginsAnew_27, if_pos (show (968 : Int32) ≤ ni 968 by decide)]
  | succ d ih =>
    intro i fuel m hi hf g
    obtain ⟨fuel, rfl⟩ : ∃ z, fuel = z + 1 := ⟨fuel - 1, by omega⟩
    have e : ¬ (968 : Int32) ≤ ni i := fun z => by
      rw [show (968 : Int32) = ni 968 from rfl, ni_le (by omega) (by omega)] at z
      omega
    obtain ⟨m', y1, y2, y3, y4⟩ := ih (i + 1) fuel (wI m 473 i 0) (by omega) (by omega) (GB_wI g)
    refine ⟨m', ?_, Fm_trans (Fm_wI (Fm_refl _ _) rfl) y2, fun j h1 h2 => ?_, fun j hj => ?_⟩
    · rw [L_X12_beginsAnew_27, if_neg e]
      simp only [b49 g, gd_t, b23 g, oc_s, b473 g (show i < 968 by omega), lt9_e, ix_ni (show i < 2147483648 by omega), show ni i + 1 = ni (i + 1) from ni_add _ 1]
      exact y1
    · by_cases q : j = i
      · rw [y4 j (by omega), rIw, q, uf_at]
      · exact y3 j (by omega) h2
    · rw [y4 j (by omega), rIw, uf_ne (by omega)]
theorem r_bgC {K : Nat → Mm → Option (Unit × Mm)} {x : Int32} : ∀ (d i fuel : Nat) (m : Mm), i + d = 6 → d < fuel → GB m → rI m 53 1 = x → ∃ m', L_X12_beginsAnew_49 K fuel 49 (ni i) m = K 49 m' ∧ Fm (fun b => b = 473) m m' ∧ (∀ j, i ≤ j → j < 6 → rI m' 473 j = b2i (tb x j) ∧ rI m' 473 (6 + j) = if tb x j = true then 0 else -1) ∧ (∀ j, (j < 6 → j < i) → (6 ≤ j → j < 12 → j < 6 + i) → rI m' 473 j = rI m 473 j) := by
  intro d
  induction d with
  | zero =>
    intro i fuel m hi hf g hx
    obtain ⟨fuel, rfl⟩ : ∃ z, fuel = z + 1 := ⟨fuel - 1, by omega⟩
    have e0 : i = 6 := by omega
    subst e0
    refine ⟨m, ?_, Fm_refl _ _, fun j h1 h2 => by omega, fun j _ _ => rfl⟩
    rw [L_X12_beginsAnew_49, if_pos (show (6 : Int32) ≤ ni 6 by decide)]
  | succ d ih =>
    intro i fuel m hi hf g hx
    obtain ⟨fuel, rfl⟩ : ∃ z, fuel = z + 1 := ⟨fuel - 1, by omega⟩
    have e : ¬ (6 : Int32) ≤ ni i := fun z => by
      rw [show (6 : Int32) = ni 6 from rfl, ni_le (by omega) (by omega)] at z
      omega
    have i1 : ix (1 : Int32) = 1 := by decide
    have z0 : (0 : Int32) + ni i = ni i := by rw [lni_add, Nat.zero_add]
    have z6 : (6 : Int32) + ni i = ni (6 + i) := lni_add 6 i
    have g1 : GB (wI m 473 i (b2i (tb x i))) := GB_wI g
    have hx1 : rI (wI m 473 i (b2i (tb x i))) 53 1 = x := by rw [rIw_ne (by omega)]; exact hx
    have k1 := hasR (x := x) (i := i) (by omega) (wI m 473 i (b2i (tb x i)))
    obtain ⟨m', y1, y2, y3, y4⟩ := ih (i + 1) fuel (wI (wI m 473 i (b2i (tb x i))) 473 (6 + i) (if tb x i = true then 0 else -1)) (by omega) (by omega) (GB_wI g1) (by rw [rIw_ne (by omega)]; exact hx1)
    refine ⟨m', ?_, Fm_trans (Fm_wI (Fm_wI (Fm_refl _ _) rfl) rfl) y2, fun j h1 h2 => ?_, fun j h1 h2 => ?_⟩
    · rw [← y1, L_X12_beginsAnew_49, if_neg e]
      cases et : tb x i with
      | false =>
        rw [et] at k1 g1 hx1
        rw [b2i_f] at k1 g1 hx1
        simp only [b49 g, b49 g1, gd_t, b23 g, b12 g, b23 g1, b12 g1, oc_s, b53k g (show 1 < 3 by omega), b53k g1 (show 1 < 3 by omega), z0, z6, b473 g (show i < 968 by omega), b473 g1 (show 6 + i < 968 by omega), lt9_e, jn_e, ix_ni (show i < 2147483648 by omega), ix_ni (show 6 + i < 2147483648 by omega), i1, hx, tst (show i < 32 by omega), et, b2i_f, hx1, bdE k1, if_true, reduceCtorEq, if_false, show ni i + 1 = ni (i + 1) from ni_add _ 1]
      | true =>
        rw [et] at k1 g1 hx1
        rw [b2i_t] at k1 g1 hx1
        simp only [b49 g, b49 g1, gd_t, b23 g, b12 g, b23 g1, b12 g1, oc_s, b53k g (show 1 < 3 by omega), b53k g1 (show 1 < 3 by omega), z0, z6, b473 g (show i < 968 by omega), b473 g1 (show 6 + i < 968 by omega), lt9_e, jn_e, ix_ni (show i < 2147483648 by omega), ix_ni (show 6 + i < 2147483648 by omega), i1, hx, tst (show i < 32 by omega), et, b2i_t, hx1, bdE k1, ↓i10, if_true, show ni i + 1 = ni (i + 1) from ni_add _ 1]
    · by_cases q : j = i
      · rw [y4 j (by omega) (by omega), y4 (6 + j) (by omega) (by omega), rIw, q, uf_ne (by omega), uf_at, rIw, uf_at]
        exact ⟨rfl, rfl⟩
      · exact y3 j (by omega) h2
    · rw [y4 j (by omega) (by omega), rIw, uf_ne (by omega), rIw, uf_ne (by omega)]
def bgK : Nat → Mm → Option (Unit × Mm) := fun (v0 : Nat) (m : Mm) =>
 gd (okO m v0 12) (oc (rR m v0 23) none fun q20 =>
 gd (okA m 100 q20 (181 : Int32)) (lt9 (wI m q20 (ix (181 : Int32)) (1 : Int32)) fun m21 =>
 gd (okO m21 v0 12) (oc (rR m21 v0 23) none fun q22 =>
 gd (okO m21 v0 12) (oc (rR m21 v0 12) none fun q23 =>
 gd (okA m21 100 q23 (1 : Int32)) (
 gd (okA m21 100 q22 (182 : Int32)) (lt9 (wI m21 q22 (ix (182 : Int32)) (rI m21 q23 (ix (1 : Int32)))) fun m24 =>
 gd (okO m24 v0 12) (oc (rR m24 v0 23) none fun q25 =>
 gd (okO m24 v0 12) (oc (rR m24 v0 12) none fun q26 =>
 gd (okA m24 100 q26 (1 : Int32)) (
 gd (okA m24 100 q25 (183 : Int32)) (lt9 (wI m24 q25 (ix (183 : Int32)) (rI m24 q26 (ix (1 : Int32)))) fun m27 =>
 gd (okO m27 v0 12) (oc (rR m27 v0 23) none fun q28 =>
 gd (okO m27 v0 12) (oc (rR m27 v0 12) none fun q29 =>
 gd (okA m27 100 q29 (0 : Int32)) (
 gd (okA m27 100 q28 (184 : Int32)) (lt9 (wI m27 q28 (ix (184 : Int32)) (((1 : Int32) <<< ((rI m27 q29 (ix (0 : Int32))) &&& 31)) - (1 : Int32))) fun m30 =>
 gd (okO m30 v0 12) (lt9 (wI m30 v0 13 (0 : Int32)) fun m31 =>
 gd (okO m31 v0 12) (lt9 (wI m31 v0 27 (0 : Int32)) fun m32 =>
 gd (okO m32 v0 12) (lt9 (wI m32 v0 28 (0 : Int32)) fun m33 =>
 gd (okO m33 v0 12) (lt9 (wI m33 v0 29 (0 : Int32)) fun m34 =>
 gd (okO m34 v0 12) (lt9 (wI m34 v0 30 (0 : Int32)) fun m35 =>
 some ((), m35))))))))))))))))))))
def bgJ : Nat → Mm → Option (Unit × Mm) := fun v0 m => lt9 (0 : Int32) fun x10 => L_X12_beginsAnew_49 bgK NF v0 x10 m
theorem bgE (m : Mm) : F_X12_beginsAnew 49 m = L_X12_beginsAnew_2 (fun v0 m => lt9 (0 : Int32) fun x6 => L_X12_beginsAnew_27 bgJ NF v0 x6 m) NF 49 0 m := by
  unfold F_X12_beginsAnew
  rw [lt9_e]
  rfl
theorem r_begA {m : Mm} {n : Nat} {x : Int32} (g : GB m) (h0 : rI m 52 0 = ni n) (h1 : rI m 52 1 = x) : ∃ m', F_X12_beginsAnew 49 m = some ((), m') ∧ Fm (fun b => b = 49 ∨ b = 53 ∨ b = 473) m m' ∧ (∀ j, j ≠ 13 → j ≠ 27 → j ≠ 28 → j ≠ 29 → j ≠ 30 → rI m' 49 j = rI m 49 j) ∧ (∀ j, j = 13 ∨ j = 27 ∨ j = 28 ∨ j = 29 ∨ j = 30 → rI m' 49 j = 0) ∧ (∀ j, j < 3 → rI m' 53 j = rI m 52 j) ∧ Bg n x (rI m' 473) := by
  rw [bgE]
  obtain ⟨m1, x1, x2, x3, -⟩ := r_bgA (K := fun (v0 : Nat) (m : Mm) => lt9 (0 : Int32) fun x6 => L_X12_beginsAnew_27 bgJ NF v0 x6 m) 3 0 NF m (by omega) (by unfold NF; omega) g
  have g1 := GB_fr x2 g
  rw [ni_0] at x1
  rw [x1, lt9_e]
  obtain ⟨m2, u1, u2, u3, -⟩ := r_bgB (K := bgJ) 968 0 NF m1 (by omega) (by unfold NF; omega) g1
  have g2 := GB_fr u2 g1
  rw [ni_0] at u1
  rw [u1]
  unfold bgJ
  rw [lt9_e]
  have e53 : ∀ j, j < 3 → rI m2 53 j = rI m 52 j := fun j hj => by
    rw [(u2.1 53 (by omega)).1]
    exact x3 j (by omega) hj
  obtain ⟨m3, w1, w2, w3, w4⟩ := r_bgC (K := bgK) (x := x) 6 0 NF m2 (by omega) (by unfold NF; omega) g2 (by rw [e53 1 (by omega)]; exact h1)
  have g3 := GB_fr w2 g2
  rw [ni_0] at w1
  rw [w1]
  have f53 : ∀ j, j < 3 → rI m3 53 j = rI m 52 j := fun j hj => by
    rw [(w2.1 53 (by omega)).1]
    exact e53 j hj
  have k0 : rI m3 53 0 = ni n := (f53 0 (by omega)).trans h0
  have k1 : rI m3 53 1 = x := (f53 1 (by omega)).trans h1
  have w49 : rI m3 49 = rI m 49 := by rw [(w2.1 49 (by omega)).1, (u2.1 49 (by omega)).1, (x2.1 49 (by omega)).1]
  refine ⟨wI (wI (wI (wI (wI (wI (wI (wI (wI m3 473 181 1) 473 182 x) 473 183 x) 473 184 (allB n)) 49 13 0) 49 27 0) 49 28 0) 49 29 0) 49 30 0, ?_, ?_, fun j a1 a2 a3 a4 a5 => ?_, fun j hj => ?_, fun j hj => ?_, fun i hi => ?_, fun i hi => ?_, fun j b1 b2 b3 b4 b5 b6 => ?_, ?_, ?_, ?_, ?_⟩
  · unfold bgK
    have q0 : okA m3 100 53 0 = true := b53k g3 (i := 0) (by omega)
    have q1 : okA m3 100 53 1 = true := b53k g3 (i := 1) (by omega)
    have p1 : okA m3 100 473 181 = true := b473k g3 (i := 181) (by omega)
    have p2 : okA m3 100 473 182 = true := b473k g3 (i := 182) (by omega)
    have p3 : okA m3 100 473 183 = true := b473k g3 (i := 183) (by omega)
    have p4 : okA m3 100 473 184 = true := b473k g3 (i := 184) (by omega)
    have j0 : ix (0 : Int32) = 0 := by decide
    have j1 : ix (1 : Int32) = 1 := by decide
    have n53 : ∀ (m : Mm) (j : Nat) (v : Int32), rI (wI m 473 j v) 53 = rI m 53 := fun m j v => rIw_ne (by omega)
    simp only [gd_t, bd_s, oc_s, oc_n, lt9_e, jn_e, okOwI, okAwI, okTwI, lnwI, okOwL, okAwL, okTwL, lnwL, rRwI, rRwL, sHwI, sHwL, rIwL, rLwI, b49 g3, b12 g3, b23 g3, q0, q1, p1, p2, p3, p4, j0, j1, n53, k0, k1, show ix (181 : Int32) = 181 from by decide, show ix (182 : Int32) = 182 from by decide, show ix (183 : Int32) = 183 from by decide, show ix (184 : Int32) = 184 from by decide]
    rfl
  · refine Fm_trans (Fm_mono (fun b z => .inr (.inl z)) x2) (Fm_trans (Fm_mono (fun b z => .inr (.inr z)) u2) (Fm_trans (Fm_mono (fun b z => .inr (.inr z)) w2) ?_))
    exact Fm_wI (Fm_wI (Fm_wI (Fm_wI (Fm_wI (Fm_wI (Fm_wI (Fm_wI (Fm_wI (Fm_refl _ _) (by omega)) (by omega)) (by omega)) (by omega)) (by omega)) (by omega)) (by omega)) (by omega)) (by omega)
  · simp (disch := omega) only [rIw, rIw_ne, uf_ne, w49]
  · rcases hj with rfl | rfl | rfl | rfl | rfl <;> simp (disch := omega) only [rIw, uf_ap, if_pos, if_neg, if_true]
  · simp (disch := omega) only [rIw_ne]
    exact f53 j hj
  · simp (disch := omega) only [rIw, rIw_ne, uf_ne]
    exact (w3 i (by omega) hi).1
  · simp (disch := omega) only [rIw, rIw_ne, uf_ne]
    exact (w3 i (by omega) hi).2
  · simp (disch := omega) only [rIw, rIw_ne, uf_ne]
    rw [w4 j (by omega) (by omega)]
    exact u3 j (by omega) (by omega)
  · simp (disch := omega) only [rIw_ne, rIw, uf_ap, if_pos, if_neg, if_true]
  · simp (disch := omega) only [rIw_ne, rIw, uf_ap, if_pos, if_neg, if_true]
  · simp (disch := omega) only [rIw_ne, rIw, uf_ap, if_pos, if_neg, if_true]
  · simp (disch := omega) only [rIw_ne, rIw, uf_ap, if_pos, if_neg, if_true]
