/-! L2: the new view: class and reference. -/
theorem gI_drA : ∀ (d i : Nat) (σ : St) (b j : Nat), gI (itn dropA d i σ) b j = if (b = 2 ∨ b = 3) ∧ i ≤ j ∧ j < i + d then 0 else gI σ b j := by
  intro d
  induction d with
  | zero =>
    intro i σ b j
    rw [if_neg (by omega)]
    rfl
  | succ d ih =>
    intro i σ b j
    show gI (itn dropA d (i + 1) (dropA i σ)) b j = _
    rw [ih, dropA, gI_tI, gI_tI]
    by_cases e : (b = 2 ∨ b = 3) ∧ i ≤ j ∧ j < i + (d + 1)
    · rw [if_pos e]
      by_cases e2 : j = i
      · rw [if_neg (by omega)]
        by_cases e3 : b = 3
        · rw [if_pos ⟨e3, e2⟩]
        · rw [if_neg (by omega), if_pos (by omega)]
      · rw [if_pos (by omega)]
    · rw [if_neg e, if_neg (by omega), if_neg (by omega), if_neg (by omega)]
theorem gI_drB : ∀ (d i : Nat) (σ : St) (b j : Nat), gI (itn dropB d i σ) b j = if b = 4 ∧ i ≤ j ∧ j < i + d then 0 else gI σ b j := by
  intro d
  induction d with
  | zero =>
    intro i σ b j
    rw [if_neg (by omega)]
    rfl
  | succ d ih =>
    intro i σ b j
    show gI (itn dropB d (i + 1) (dropB i σ)) b j = _
    rw [ih, dropB, gI_tI]
    by_cases e : b = 4 ∧ i ≤ j ∧ j < i + (d + 1)
    · rw [if_pos e]
      by_cases e2 : j = i
      · rw [if_neg (by omega), if_pos (by omega)]
      · rw [if_pos (by omega)]
    · rw [if_neg e, if_neg (by omega), if_neg (by omega)]
theorem gI_drC : ∀ (d i : Nat) (σ : St) (b j : Nat), gI (itn dropC d i σ) b j = if b = 10 ∧ i ≤ j ∧ j < i + d then 0 else gI σ b j := by
  intro d
  induction d with
  | zero =>
    intro i σ b j
    rw [if_neg (by omega)]
    rfl
  | succ d ih =>
    intro i σ b j
    show gI (itn dropC d (i + 1) (dropC i σ)) b j = _
    rw [ih, dropC, gI_tI]
    by_cases e : b = 10 ∧ i ≤ j ∧ j < i + (d + 1)
    · rw [if_pos e]
      by_cases e2 : j = i
      · rw [if_neg (by omega), if_pos (by omega)]
      · rw [if_pos (by omega)]
    · rw [if_neg e, if_neg (by omega), if_neg (by omega)]
theorem gL_drop {f : Nat → St → St} (hf : ∀ i σ b j, gL (f i σ) b j = gL σ b j) : ∀ (d i : Nat) (σ : St) (b j : Nat), gL (itn f d i σ) b j = gL σ b j := by
  intro d
  induction d with
  | zero =>
    intro i σ b j
    rfl
  | succ d ih =>
    intro i σ b j
    show gL (itn f d (i + 1) (f i σ)) b j = _
    rw [ih, hf]
theorem gL_dropM (σ : St) (b j : Nat) : gL (dropM σ) b j = gL σ b j := by
  unfold dropM
  rw [gL_drop (f := dropC) (fun _ _ _ _ => rfl), gL_drop (f := dropB) (fun _ _ _ _ => rfl), gL_drop (f := dropA) (fun _ _ _ _ => rfl)]
  rfl
def drz (b j : Nat) : Bool := (decide (b = 10) && decide (j < 30)) || (decide (b = 4) && decide (j < 36)) || ((decide (b = 2) || decide (b = 3)) && decide (j < 6)) || (decide (b = 0) && decide (j = 7))
theorem gI_dropM (σ : St) (b j : Nat) : gI (dropM σ) b j = if drz b j then 0 else gI σ b j := by
  unfold dropM drz
  rw [gI_drC, gI_drB, gI_drA, gI_tI]
  by_cases e1 : b = 10 ∧ j < 30
  · rw [if_pos (by omega)]
    simp [e1]
  · rw [if_neg (by omega)]
    by_cases e2 : b = 4 ∧ j < 36
    · rw [if_pos (by omega)]
      simp [e2]
    · rw [if_neg (by omega)]
      by_cases e3 : (b = 2 ∨ b = 3) ∧ j < 6
      · rw [if_pos (by omega)]
        rcases e3 with ⟨rfl | rfl, e3⟩ <;> simp [e3]
      · rw [if_neg (by omega)]
        by_cases e4 : b = 0 ∧ j = 7
        · rw [if_pos e4]
          simp [e4]
        · rw [if_neg e4, if_neg]
          simp
          omega
/-! the class's loop -/
theorem owL_120 {a : Nat} (ha : a < 6) : owL 12 (a * 64) = a := by
  have := owL_12 (e := 0) ha (by omega)
  rw [Nat.add_zero] at this
  exact this
def cvG (jo : Int32) (s : Int64) (i : Nat) (σ : St) : St :=
  let σa := if tb (gI σ 0 1) i = false then tI σ 5 i 0 else tI σ 1 i (gI σ 1 i + 1)
  if tb jo i = false then σa else tI (tL (tL σa 11 i s) 12 (i * 64) s) 7 i 1
theorem cv_eq {jo : Int32} {l : Nat} {σ : St} (hl : l < 6) (hj : tb jo l = false) : itn (cvF jo (ni l)) 6 0 σ = itn (cvG jo (gL σ 11 l)) 6 0 σ := by
  refine itn_cg (P := fun _ τ => gL τ 11 l = gL σ 11 l) 6 0 σ rfl (fun k τ _ _ hp => ⟨?_, ?_⟩)
  · unfold cvF cvG
    have h6 : ¬ (6 : Int32) ≤ ni l := by
      rw [show (6 : Int32) = ni 6 from rfl, ni_le (by omega) (by omega)]
      omega
    dsimp only
    rw [if_neg h6, ix_ni (by omega), hp]
  · unfold cvG
    have ha : gL (if tb (gI τ 0 1) k = false then tI τ 5 k 0 else tI τ 1 k (gI τ 1 k + 1)) 11 l = gL σ 11 l := by
      split <;> exact hp
    dsimp only
    cases e : tb jo k
    · simp only [if_true]
      exact ha
    · simp only [reduceCtorEq, if_false]
      have hkl : l ≠ k := fun q => by rw [q, e] at hj; cases hj
      rw [gL_tI, gL_tL, if_neg (by omega), gL_tL, if_neg (by omega)]
      exact ha
theorem cvG_I (jo : Int32) (s : Int64) (i : Nat) (σ : St) (b j : Nat) : gI (cvG jo s i σ) b j = if b = 7 ∧ j = i ∧ tb jo i = true then 1 else if b = 5 ∧ j = i ∧ tb (gI σ 0 1) i = false then 0 else if b = 1 ∧ j = i ∧ tb (gI σ 0 1) i = true then gI σ 1 i + 1 else gI σ b j := by
  unfold cvG
  cases e1 : tb jo i <;> cases e2 : tb (gI σ 0 1) i
  all_goals simp only [reduceCtorEq, if_true, if_false, gI_tI, gI_tL, and_true, and_false]
theorem cvG_L (jo : Int32) (s : Int64) (i : Nat) (σ : St) (b j : Nat) : gL (cvG jo s i σ) b j = if tb jo i = true ∧ (b = 12 ∧ j = i * 64 ∨ b = 11 ∧ j = i) then s else gL σ b j := by
  unfold cvG
  cases e1 : tb jo i <;> cases e2 : tb (gI σ 0 1) i
  all_goals simp only [reduceCtorEq, if_true, if_false, gL_tI, gL_tL, false_and, true_and]
  all_goals (by_cases q1 : b = 12 ∧ j = i * 64 <;> by_cases q2 : b = 11 ∧ j = i <;> simp [q1, q2])
theorem cvG_loc (jo : Int32) (s : Int64) : Loc owI owL 6 (cvG jo s) := by
  refine ⟨fun i σ hi => ⟨fun b j h _ => ?_, fun b j h => ?_⟩, fun i σ τ hi h => ⟨fun b j hb => ?_, fun b j hb => ?_⟩, by omega⟩
  · rw [cvG_I, if_neg, if_neg, if_neg]
    · rintro ⟨rfl, rfl, _⟩
      exact h (owI_j (by omega) hi)
    · rintro ⟨rfl, rfl, _⟩
      exact h (owI_j (by omega) hi)
    · rintro ⟨rfl, rfl, _⟩
      exact h (owI_j (by omega) hi)
  · rw [cvG_L, if_neg]
    rintro ⟨_, ⟨rfl, rfl⟩ | ⟨rfl, rfl⟩⟩
    · exact h (owL_120 hi)
    · exact h (owL_11 hi)
  · rw [cvG_I, cvG_I, h.1 0 1 (.inr (owI_c (by omega) (by omega))), h.1 1 i (.inl (owI_j (by omega) hi)), h.1 b j hb]
  · rw [cvG_L, cvG_L, h.2 b j hb]
/-! the reference's loop -/
def comeS (σ : St) (i l : Nat) : St := logS (tI (tL (tI σ 1 i (gI σ 1 i + 1)) 11 i (gL σ 11 l)) 7 i 0) i
def rvA (x jo : Int32) (l i : Nat) (σ : St) : St := if tb jo i = true then comeS σ i l else if tb x i = true then tI σ 1 i (gI σ 1 i + 1) else if tb (gI σ 0 2) i = true then tI (tI σ 0 4 (gI σ 0 4 &&& (bit i ^^^ (-1 : Int32)))) 5 i 0 else σ
def rvF (x jo : Int32) (l i : Nat) (σ : St) : St := forgetS (rvA x jo l i σ) i
theorem gI_forg (σ : St) (a b j : Nat) : gI (forgetS σ a) b j = if b = 4 ∧ a * 6 ≤ j ∧ j < a * 6 + 6 then 0 else if b = 10 ∧ j < 30 then gI σ b j &&& (bit a ^^^ (-1 : Int32)) else if (b = 2 ∨ b = 3) ∧ j = a then 0 else gI σ b j := by
  unfold forgetS
  rw [gI_crA, gI_crB]
  by_cases e1 : b = 4 ∧ a * 6 ≤ j ∧ j < a * 6 + 6
  · rw [if_pos (by omega), if_pos e1]
  · rw [if_neg (by omega), if_neg e1, gI_tI, gI_tI]
    by_cases e2 : b = 10 ∧ j < 30
    · rw [if_pos (by omega), if_pos e2, if_neg (by omega), if_neg (by omega)]
    · rw [if_neg (by omega), if_neg e2]
      by_cases e3 : (b = 2 ∨ b = 3) ∧ j = a
      · rw [if_pos e3]
        by_cases e4 : b = 3
        · rw [if_pos ⟨e4, e3.2⟩]
        · rw [if_neg (by omega), if_pos (by omega)]
      · rw [if_neg e3, if_neg (by omega), if_neg (by omega)]
theorem gL_forg (σ : St) (a b j : Nat) : gL (forgetS σ a) b j = gL σ b j := by
  unfold forgetS
  rw [gL_crA, gL_crB]
  rfl
theorem come_I (σ : St) (i l b j : Nat) : gI (comeS σ i l) b j = if b = 7 ∧ j = i then 1 else if b = 1 ∧ j = i then gI σ 1 i + 1 else gI σ b j := by
  unfold comeS logS
  have h0 : gI (tI (tL (tI σ 1 i (gI σ 1 i + 1)) 11 i (gL σ 11 l)) 7 i 0) 7 i = 0 := by rw [gI_tI, if_pos ⟨rfl, rfl⟩]
  rw [h0, if_neg (by decide), gI_tI, gI_tL, gI_tI, gI_tL, gI_tI, show (0 : Int32) + 1 = 1 by decide]
  by_cases e : b = 7 ∧ j = i
  · rw [if_pos e, if_pos e]
  · rw [if_neg e, if_neg e, if_neg e]
theorem come_L (σ : St) (i l b j : Nat) : gL (comeS σ i l) b j = if b = 12 ∧ j = i * 64 ∨ b = 11 ∧ j = i then gL σ 11 l else gL σ b j := by
  unfold comeS logS
  have h0 : gI (tI (tL (tI σ 1 i (gI σ 1 i + 1)) 11 i (gL σ 11 l)) 7 i 0) 7 i = 0 := by rw [gI_tI, if_pos ⟨rfl, rfl⟩]
  rw [h0, if_neg (by decide), show ix (0 : Int32) = 0 by decide, Nat.add_zero]
  simp only [gL_tI, gL_tL, and_self, if_true]
  by_cases q1 : b = 12 ∧ j = i * 64
  · rw [if_pos q1, if_pos (.inl q1)]
  · rw [if_neg q1]
    by_cases q2 : b = 11 ∧ j = i
    · rw [if_pos q2, if_pos (.inr q2)]
    · rw [if_neg q2, if_neg (by omega)]
theorem rvA_I (x jo : Int32) (l i : Nat) (σ : St) (b j : Nat) (hb : ¬ (b = 0 ∧ j = 4)) : gI (rvA x jo l i σ) b j = if b = 7 ∧ j = i ∧ tb jo i = true then 1 else if b = 1 ∧ j = i ∧ (tb jo i = true ∨ tb x i = true) then gI σ 1 i + 1 else if b = 5 ∧ j = i ∧ tb jo i = false ∧ tb x i = false ∧ tb (gI σ 0 2) i = true then 0 else gI σ b j := by
  unfold rvA
  cases e1 : tb jo i
  · cases e2 : tb x i
    · cases e3 : tb (gI σ 0 2) i
      · simp only [reduceCtorEq, if_false, and_false, or_self, and_true]
      · simp only [reduceCtorEq, if_false, if_true, and_false, or_self, and_true, gI_tI, hb]
    · simp only [reduceCtorEq, if_false, if_true, and_false, false_and, or_true, and_true, gI_tI]
  · simp only [if_true, come_I, reduceCtorEq, and_true, true_or, false_and, and_false, if_false]
theorem rvA_L (x jo : Int32) (l i : Nat) (σ : St) (b j : Nat) : gL (rvA x jo l i σ) b j = if tb jo i = true ∧ (b = 12 ∧ j = i * 64 ∨ b = 11 ∧ j = i) then gL σ 11 l else gL σ b j := by
  unfold rvA
  cases e1 : tb jo i
  · simp only [reduceCtorEq, if_false, false_and]
    split
    · rfl
    · split <;> rfl
  · simp only [if_true, come_L, true_and]
def rvG (x jo : Int32) (s : Int64) (i : Nat) (σ : St) : St := rvF x jo i i (tL σ 11 i s)
/-- the reference's loop, with the sum that comers take -/
def rvB (x jo : Int32) (s : Int64) (i : Nat) (σ : St) : St := forgetS (if tb jo i = true then tI (tL (tL (tI σ 1 i (gI σ 1 i + 1)) 11 i s) 12 (i * 64) s) 7 i 1 else if tb x i = true then tI σ 1 i (gI σ 1 i + 1) else if tb (gI σ 0 2) i = true then tI (tI σ 0 4 (gI σ 0 4 &&& (bit i ^^^ (-1 : Int32)))) 5 i 0 else σ) i
theorem come_eq (σ : St) (i l : Nat) : comeS σ i l = tI (tL (tL (tI σ 1 i (gI σ 1 i + 1)) 11 i (gL σ 11 l)) 12 (i * 64) (gL σ 11 l)) 7 i 1 := by
  refine st_ext (fun b j => ?_) (fun b j => ?_)
  · rw [come_I, gI_tI, gI_tL, gI_tL, gI_tI]
  · rw [come_L, gL_tI, gL_tL, gL_tL, gL_tI]
    by_cases q1 : b = 12 ∧ j = i * 64
    · rw [if_pos (.inl q1), if_pos q1]
    · rw [if_neg q1]
      by_cases q2 : b = 11 ∧ j = i
      · rw [if_pos (.inr q2), if_pos q2]
      · rw [if_neg (by omega), if_neg q2]
theorem rv_eq {x jo : Int32} {l n : Nat} {σ : St} (hj : tb jo l = false) : itn (rvF x jo l) n 0 σ = itn (rvB x jo (gL σ 11 l)) n 0 σ := by
  refine itn_cg (P := fun _ τ => gL τ 11 l = gL σ 11 l) n 0 σ rfl (fun k τ _ _ hp => ?_)
  have e : rvF x jo l k τ = rvB x jo (gL σ 11 l) k τ := by
    unfold rvF rvA rvB
    rw [come_eq, hp]
  refine ⟨e, ?_⟩
  rw [← e]
  unfold rvF
  rw [gL_forg, rvA_L, if_neg, hp]
  rintro ⟨h1, h2 | h2⟩
  · omega
  · rw [h2.2, h1] at hj
    cases hj
def owV (b j : Nat) : Nat := if b = 0 ∧ j = 4 ∨ b = 10 then 98 else if b = 2 ∨ b = 3 ∨ b = 7 ∨ b = 1 ∨ b = 5 then six j else if b = 4 then six (j / 6) else 99
theorem owV_j {b j : Nat} (h : b = 2 ∨ b = 3 ∨ b = 7 ∨ b = 1 ∨ b = 5) (hj : j < 6) : owV b j = j := by
  unfold owV
  rw [if_neg (by omega), if_pos h, six_lt hj]
theorem owV_4 {a j : Nat} (h : a < 6) (h1 : a * 6 ≤ j) (h2 : j < a * 6 + 6) : owV 4 j = a := by
  unfold owV
  rw [if_neg (by omega), if_neg (by omega), if_pos rfl, show j / 6 = a by omega, six_lt h]
theorem owV_0 {j : Nat} (h : j ≠ 4) : owV 0 j = 99 := by
  unfold owV
  rw [if_neg (by omega), if_neg (by omega), if_neg (by omega)]
theorem rvB_I (x jo : Int32) (s : Int64) (i : Nat) (σ : St) (b j : Nat) (hb : ¬ (b = 0 ∧ j = 4)) (h10 : b ≠ 10) : gI (rvB x jo s i σ) b j = if b = 4 ∧ i * 6 ≤ j ∧ j < i * 6 + 6 then 0 else if (b = 2 ∨ b = 3) ∧ j = i then 0 else if b = 7 ∧ j = i ∧ tb jo i = true then 1 else if b = 1 ∧ j = i ∧ (tb jo i = true ∨ tb x i = true) then gI σ 1 i + 1 else if b = 5 ∧ j = i ∧ tb jo i = false ∧ tb x i = false ∧ tb (gI σ 0 2) i = true then 0 else gI σ b j := by
  unfold rvB
  rw [gI_forg]
  by_cases e0 : b = 4 ∧ i * 6 ≤ j ∧ j < i * 6 + 6
  · rw [if_pos e0, if_pos e0]
  · rw [if_neg e0, if_neg e0, if_neg (by omega)]
    by_cases e9 : (b = 2 ∨ b = 3) ∧ j = i
    · rw [if_pos e9, if_pos e9]
    · rw [if_neg e9, if_neg e9]
      cases e1 : tb jo i
      · cases e2 : tb x i
        · cases e3 : tb (gI σ 0 2) i
          · simp only [reduceCtorEq, if_false, and_false, or_self, and_true]
          · simp only [reduceCtorEq, if_false, if_true, and_false, or_self, and_true, gI_tI, hb]
        · simp only [reduceCtorEq, if_false, if_true, and_false, false_and, or_true, and_true, gI_tI]
      · simp only [if_true, gI_tI, gI_tL, reduceCtorEq, and_true, true_or, false_and, and_false, if_false]
theorem rvB_L (x jo : Int32) (s : Int64) (i : Nat) (σ : St) (b j : Nat) : gL (rvB x jo s i σ) b j = if tb jo i = true ∧ (b = 12 ∧ j = i * 64 ∨ b = 11 ∧ j = i) then s else gL σ b j := by
  unfold rvB
  rw [gL_forg]
  cases e1 : tb jo i
  · simp only [reduceCtorEq, if_false, false_and]
    split
    · rfl
    · split <;> rfl
  · simp only [if_true, gL_tI, gL_tL, true_and]
    by_cases q1 : b = 12 ∧ j = i * 64 <;> by_cases q2 : b = 11 ∧ j = i <;> simp [q1, q2]
theorem rvB_loc (x jo : Int32) (s : Int64) : Loc owV owL 6 (rvB x jo s) := by
  have h98 : ∀ b j, owV b j ≠ 98 → ¬ (b = 0 ∧ j = 4) ∧ b ≠ 10 := by
    intro b j h
    unfold owV at h
    constructor
    · intro q
      rw [if_pos (.inl q)] at h
      exact h rfl
    · intro q
      rw [if_pos (.inr q)] at h
      exact h rfl
  refine ⟨fun i σ hi => ⟨fun b j h h8 => ?_, fun b j h => ?_⟩, fun i σ τ hi h => ⟨fun b j hb => ?_, fun b j hb => ?_⟩, by omega⟩
  · obtain ⟨n1, n2⟩ := h98 b j h8
    rw [rvB_I _ _ _ _ _ _ _ n1 n2, if_neg, if_neg, if_neg, if_neg, if_neg]
    · rintro ⟨rfl, rfl, _⟩
      exact h (owV_j (by omega) hi)
    · rintro ⟨rfl, rfl, _⟩
      exact h (owV_j (by omega) hi)
    · rintro ⟨rfl, rfl, _⟩
      exact h (owV_j (by omega) hi)
    · rintro ⟨h1, rfl⟩
      exact h (owV_j (by omega) hi)
    · rintro ⟨rfl, h1, h2⟩
      exact h (owV_4 hi h1 h2)
  · rw [rvB_L, if_neg]
    rintro ⟨_, ⟨rfl, rfl⟩ | ⟨rfl, rfl⟩⟩
    · exact h (owL_120 hi)
    · exact h (owL_11 hi)
  · have h8 : owV b j ≠ 98 := by omega
    obtain ⟨n1, n2⟩ := h98 b j h8
    rw [rvB_I _ _ _ _ _ _ _ n1 n2, rvB_I _ _ _ _ _ _ _ n1 n2, h.1 0 2 (.inr (owV_0 (by omega))), h.1 1 i (.inl (owV_j (by omega) hi)), h.1 b j hb]
  · rw [rvB_L, rvB_L, h.2 b j hb]
/-- blocked and ways in the reference's loop -/
theorem rvB_w {x jo : Int32} {s : Int64} (i : Nat) (σ : St) : gI (rvB x jo s i σ) 0 4 = (if tb jo i = true then gI σ 0 4 else if tb x i = true then gI σ 0 4 else if tb (gI σ 0 2) i = true then gI σ 0 4 &&& (bit i ^^^ (-1 : Int32)) else gI σ 0 4) ∧ (∀ k, k < 30 → gI (rvB x jo s i σ) 10 k = gI σ 10 k &&& (bit i ^^^ (-1 : Int32))) ∧ (∀ k, 30 ≤ k → gI (rvB x jo s i σ) 10 k = gI σ 10 k) ∧ gI (rvB x jo s i σ) 0 2 = gI σ 0 2 := by
  unfold rvB
  refine ⟨?_, fun k hk => ?_, fun k hk => ?_, ?_⟩
  · rw [gI_forg, if_neg (by omega), if_neg (by omega), if_neg (by omega)]
    repeat' split
    all_goals rfl
  · rw [gI_forg, if_neg (by omega), if_pos ⟨rfl, hk⟩]
    repeat' split
    all_goals rfl
  · rw [gI_forg, if_neg (by omega), if_neg (by omega), if_neg (by omega)]
    repeat' split
    all_goals rfl
  · rw [gI_forg, if_neg (by omega), if_neg (by omega), if_neg (by omega)]
    repeat' split
    all_goals rfl
theorem tb_cl {y : Int32} {i k : Nat} (hi : i < 32) (hk : k < 32) : tb (y &&& (bit i ^^^ (-1 : Int32))) k = (tb y k && !(decide (k = i))) := by
  rw [tb_and, tb_not, bit, tb_bit hi]
  simp [hk]
theorem rvB_loop {x jo : Int32} {s : Int64} {n : Nat} {σ : St} (hn : n ≤ 6) (hbi : sbs (gI σ 0 4) (gI σ 0 2)) (hji : ∀ k, tb jo k = true → tb (gI σ 0 2) k = false) :
    (∀ k, k < n → tb (gI (itn (rvB x jo s) n 0 σ) 0 4) k = true → tb x k = true) ∧ (∀ k, tb (gI (itn (rvB x jo s) n 0 σ) 0 4) k = true → tb (gI σ 0 4) k = true) ∧
    (∀ j, j < 30 → ∀ k, tb (gI (itn (rvB x jo s) n 0 σ) 10 j) k = true → tb (gI σ 10 j) k = true ∧ n ≤ k) ∧ (∀ j, 30 ≤ j → gI (itn (rvB x jo s) n 0 σ) 10 j = gI σ 10 j) := by
  have z := itn_inv (f := rvB x jo s) (P := fun i τ => gI τ 0 2 = gI σ 0 2 ∧ (∀ k, k < i → tb (gI τ 0 4) k = true → tb x k = true) ∧ (∀ k, tb (gI τ 0 4) k = true → tb (gI σ 0 4) k = true) ∧ (∀ j, j < 30 → ∀ k, tb (gI τ 10 j) k = true → tb (gI σ 10 j) k = true ∧ i ≤ k) ∧ (∀ j, 30 ≤ j → gI τ 10 j = gI σ 10 j)) n 0 σ
    ⟨rfl, fun k hk => by omega, fun k h => h, fun j _ k h => ⟨h, by omega⟩, fun _ _ => rfl⟩ (fun i τ _ hi hp => by
      obtain ⟨p0, p1, p2, p3, p4⟩ := hp
      obtain ⟨q1, q2, q3, q4⟩ := rvB_w (x := x) (jo := jo) (s := s) i τ
      have hsub : ∀ k, tb (gI (rvB x jo s i τ) 0 4) k = true → tb (gI τ 0 4) k = true := by
        intro k hk
        rw [q1] at hk
        repeat' split at hk
        all_goals first | exact hk | (rw [tb_and] at hk; simp at hk; exact hk.1)
      refine ⟨q4.trans p0, fun k hk h => ?_, fun k h => p2 k (hsub k h), fun j hj k h => ?_, fun j hj => (q3 j hj).trans (p4 j hj)⟩
      · by_cases e : k = i
        · subst e
          have h4 := hsub k h
          have h5 := hbi k (p2 k h4)
          cases e1 : tb x k
          · exfalso
            have e2 : tb jo k = false := by
              cases e3 : tb jo k
              · rfl
              · rw [hji k e3] at h5
                cases h5
            rw [q1, e1, e2, p0, h5] at h
            simp only [reduceCtorEq, if_false, if_true] at h
            rw [tb_cl (by omega) (by omega)] at h
            simp at h
          · rfl
        · exact p1 k (by omega) (hsub k h)
      · rw [q2 j hj] at h
        by_cases hk : k < 32
        · rw [tb_cl (by omega) hk] at h
          simp at h
          obtain ⟨r1, r2⟩ := p3 j hj k h.1
          exact ⟨r1, by omega⟩
        · rw [tb_ge (by omega)] at h
          cases h)
  rw [Nat.zero_add] at z
  exact z.2
/-- the reference's new view -/
def rview (σ : St) (x jo : Int32) (l n : Nat) : St :=
  let τ := itn (rvF x jo l) n 0 (flush σ x)
  tI (tI (tI (tI (tI (tI τ 0 0 (gI τ 0 0 + 1)) 0 1 (x ||| jo)) 0 2 (x ||| jo)) 0 5 (gI τ 0 5 &&& (jo ^^^ (-1 : Int32)))) 0 4 (gI τ 0 4 &&& (x ^^^ (-1 : Int32)))) 0 7 0
theorem flush_0 (σ : St) (x : Int32) (b j : Nat) (h : ¬ (b = 2 ∨ b = 3 ∨ b = 7 ∨ b = 4)) : gI (flush σ x) b j = gI σ b j := by
  have z := itn_inv (f := flushM (keptBy σ x) x) (P := fun _ τ => gI τ b j = gI σ b j) 6 0 σ rfl (fun k τ _ _ hp => by
    unfold flushM
    generalize (if tb x k then keptBy σ x &&& (gI τ 2 k ^^^ (-1 : Int32)) else 0) = lack
    refine itn_inv (f := flush1 lack k) (P := fun _ τ => gI τ b j = gI σ b j) 30 0 τ hp (fun i ρ _ _ hq => ?_)
    unfold flush1
    split
    · rw [gI_del, if_neg (by omega), if_neg (by omega), if_neg (by omega), if_neg (by omega)]
      exact hq
    · exact hq)
  exact z
theorem view_eq {n B : Nat} {σ : St} {x jo : Int32} (h : WF n B σ) (hx : sbs x (gI σ 0 2)) (hx0 : x ≠ 0) (hj : sbs jo (gI σ 0 5)) (hl : ∀ a, a < 6 → tb x a = true → Lg σ a) : rview σ x jo (lst x) n = changeView σ x jo := by
  have hn := WF_6 h
  have hbx : bel n x := fun k hk => by
    cases e : tb x k
    · rfl
    · have := hx k e
      rw [h.1.2.2.1 k hk] at this
      cases this
  have hbj : bel n jo := fun k hk => by
    cases e : tb jo k
    · rfl
    · have := hj k e
      rw [h.1.2.2.2.2.2.1 k hk] at this
      cases this
  have hb6 : bel 6 x := bel_mono hn hbx
  have hji : ∀ k, tb jo k = true → tb (gI σ 0 2) k = false := fun k hk => h.1.2.2.2.2.2.2.2.2.2.2 k (hj k hk)
  obtain ⟨z1, z2⟩ := lst_tb hb6 hx0
  have l6 := lst_6 x
  have hjl : tb jo (lst x) = false := by
    cases e : tb jo (lst x)
    · rfl
    · have := hji _ e
      rw [hx _ z1] at this
      cases this
  have hxn : ∀ a, tb x a = true → a < n := fun a e => by
    by_cases q : a < n
    · exact q
    · rw [hbx a (by omega)] at e
      cases e
  obtain ⟨w1, w2, w3⟩ := WF_flush h (fun a ha e => ⟨hxn a e, hl a ha e⟩)
  have f0 := fun b j q => flush_0 σ x b j q
  unfold rview changeView
  rw [ntz_lst hb6 hx0]
  dsimp only
  generalize hσ : flush σ x = ρ at *
  have g2 : gI ρ 0 2 = gI σ 0 2 := f0 0 2 (by omega)
  have g4 : gI ρ 0 4 = gI σ 0 4 := f0 0 4 (by omega)
  rw [cv_eq l6 hjl, rv_eq hjl]
  have hs : gL (tI (tI ρ 0 0 (gI ρ 0 0 + 1)) 0 1 (x ||| jo)) 11 (lst x) = gL ρ 11 (lst x) := rfl
  rw [hs]
  generalize gL ρ 11 (lst x) = s
  obtain ⟨cI, cL⟩ := itn_own (cvG_loc jo s) 6 0 (tI (tI ρ 0 0 (gI ρ 0 0 + 1)) 0 1 (x ||| jo)) (by omega)
  obtain ⟨rI', rL'⟩ := itn_own (rvB_loc x jo s) n 0 ρ (by omega)
  obtain ⟨y1, y2, y3, y4⟩ := rvB_loop (x := x) (jo := jo) (s := s) (n := n) (σ := ρ) hn (by rw [g2, g4]; exact h.1.2.2.2.2.2.2.2.2.2.1) (by rw [g2]; exact hji)
  generalize hτ : itn (rvB x jo s) n 0 ρ = τ at *
  generalize hκ : itn (cvG jo s) 6 0 (tI (tI ρ 0 0 (gI ρ 0 0 + 1)) 0 1 (x ||| jo)) = κ at *
  have c0 : ∀ j, gI κ 0 j = gI (tI (tI ρ 0 0 (gI ρ 0 0 + 1)) 0 1 (x ||| jo)) 0 j := fun j => by
    rw [cI 0 j (owI_98 _ _), owI_c (by omega) (by omega), if_neg (by omega)]
  have r0 : ∀ j, j ≠ 4 → gI τ 0 j = gI ρ 0 j := fun j hj => by
    rw [rI' 0 j (by rw [owV_0 hj]; omega), owV_0 hj, if_neg (by omega)]
  refine st_ext (fun b j => ?_) (fun b j => ?_)
  · rw [gI_dropM]
    by_cases b0 : b = 0
    · subst b0
      by_cases j7 : j = 7
      · subst j7
        rfl
      · have hz : drz 0 j = false := by
          unfold drz
          simp [j7]
        rw [hz]
        simp only [gI_tI, true_and, reduceCtorEq, if_false, c0]
        by_cases j4 : j = 4
        · subst j4
          simp only [if_true, Nat.reduceEqDiff, if_false]
          rw [eq0]
          intro k
          rw [tb_and, tb_not]
          cases e : tb (gI τ 0 4) k
          · rfl
          · have q := y2 k e
            rw [g4] at q
            have q2 := h.1.2.2.2.2.2.2.2.2.2.1 k q
            have hkn : k < n := by
              by_cases q3 : k < n
              · exact q3
              · rw [h.1.2.2.1 k (by omega)] at q2
                cases q2
            rw [y1 k hkn e]
            simp
        · simp only [j7, j4, if_false]
          by_cases j5 : j = 5
          · subst j5
            rw [if_pos rfl, if_pos rfl, r0 5 (by omega)]
            rfl
          · simp only [j5, if_false]
            by_cases j2 : j = 2
            · subst j2
              rfl
            · simp only [j2, if_false]
              by_cases j1 : j = 1
              · rw [if_pos j1, if_pos j1]
              · simp only [j1, if_false]
                by_cases j0 : j = 0
                · subst j0
                  rw [if_pos rfl, if_pos rfl, r0 0 (by omega)]
                · rw [if_neg j0, if_neg j0, r0 j j4]
    · simp only [gI_tI, b0, false_and, if_false]
      by_cases b10 : b = 10
      · subst b10
        by_cases j30 : j < 30
        · have hz : drz 10 j = true := by
            unfold drz
            simp [j30]
          rw [hz, if_pos rfl, eq0]
          intro k
          cases e : tb (gI τ 10 j) k
          · rfl
          · obtain ⟨q1, q2⟩ := y3 j j30 k e
            rw [f0 10 j (by omega)] at q1
            have q3 := h.2.1.2.2.2.2.1 j j30 k q1
            rw [h.1.2.2.1 k q2] at q3
            cases q3
        · have hz : drz 10 j = false := by
            unfold drz
            simp [j30]
          rw [hz]
          simp only [reduceCtorEq, if_false]
          rw [y4 j (by omega), cI 10 j (owI_98 _ _), owI_c (by omega) (by omega), if_neg (by omega)]
          rfl
      · have n98 : owV b j ≠ 98 := by
          unfold owV
          rw [if_neg (by omega)]
          split
          · exact six_98 _
          · split
            · exact six_98 _
            · omega
        rw [rI' b j n98]
        by_cases b23 : (b = 2 ∨ b = 3) ∧ j < 6
        · have hz : drz b j = true := by
            unfold drz
            rcases b23 with ⟨rfl | rfl, hj6⟩ <;> simp [hj6]
          rw [hz, if_pos rfl, owV_j (by omega) b23.2]
          by_cases e : j < n
          · rw [if_pos (by omega), rvB_I _ _ _ _ _ _ _ (by omega) b10, if_neg (by omega), if_pos ⟨b23.1, rfl⟩]
          · rw [if_neg (by omega)]
            obtain ⟨q1, q2, _⟩ := w1.2.1.2.2.2.2.2.2.2.2.2.2 j (by omega) b23.2
            rcases b23.1 with rfl | rfl
            · exact q1
            · exact q2
        · by_cases b4 : b = 4 ∧ j < 36
          · have hz : drz b j = true := by
              unfold drz
              simp [b4]
            obtain ⟨rfl, hj36⟩ := b4
            rw [hz, if_pos rfl, owV_4 (a := j / 6) (by omega) (by omega) (by omega)]
            by_cases e : j / 6 < n
            · rw [if_pos (by omega), rvB_I _ _ _ _ _ _ _ (by omega) b10, if_pos (by omega)]
            · rw [if_neg (by omega)]
              obtain ⟨_, _, q3⟩ := w1.2.1.2.2.2.2.2.2.2.2.2.2 (j / 6) (by omega) (by omega)
              have := q3 (j % 6) (by omega)
              rw [show j / 6 * 6 + j % 6 = j by omega] at this
              exact this
          · have hz : drz b j = false := by
              unfold drz
              have : ¬ (b = 2 ∧ j < 6) := by omega
              have : ¬ (b = 3 ∧ j < 6) := by omega
              simp only [b0, b10, decide_false, Bool.false_and, Bool.or_false, Bool.false_or]
              simp only [← Bool.decide_and, ← Bool.decide_or]
              simp
              omega
            rw [hz, cI b j (owI_98 _ _)]
            simp only [reduceCtorEq, if_false]
            by_cases b15 : (b = 1 ∨ b = 5 ∨ b = 7) ∧ j < 6
            · obtain ⟨b15, hj6⟩ := b15
              rw [owV_j (by omega) hj6, owI_j (by omega) hj6, if_pos (show 0 ≤ j ∧ j < 0 + 6 by omega), cvG_I]
              have e01 : gI (tI (tI ρ 0 0 (gI ρ 0 0 + 1)) 0 1 (x ||| jo)) 0 1 = x ||| jo := rfl
              have eb : gI (tI (tI ρ 0 0 (gI ρ 0 0 + 1)) 0 1 (x ||| jo)) b j = gI ρ b j := by
                rw [gI_tI, if_neg (by omega), gI_tI, if_neg (by omega)]
              have e1 : gI (tI (tI ρ 0 0 (gI ρ 0 0 + 1)) 0 1 (x ||| jo)) 1 j = gI ρ 1 j := rfl
              rw [e01, eb, e1, tb_or]
              by_cases e : j < n
              · rw [if_pos (by omega), rvB_I _ _ _ _ _ _ _ (by omega) b10, if_neg (by omega), if_neg (by omega), g2]
                rcases b15 with rfl | rfl | rfl
                · cases tb jo j <;> cases tb x j <;> simp
                · cases e1 : tb jo j <;> cases e2 : tb x j <;> simp
                  intro q
                  obtain ⟨hh, hh1, hh2, hh3⟩ := h.2.1.2.2.2.2.2.2.2.1 j hj6
                  rw [f0 5 j (by omega), hh2]
                  by_cases e3 : 0 < hh
                  · rw [hh3 e3] at q
                    cases q
                  · rw [show hh = 0 by omega]
                    rfl
                · cases tb jo j <;> cases tb x j <;> simp
              · rw [if_neg (by omega), hbx j (by omega), hbj j (by omega)]
                rcases b15 with rfl | rfl | rfl
                · simp
                · simp
                  obtain ⟨hh, hh1, hh2, hh3⟩ := h.2.1.2.2.2.2.2.2.2.1 j hj6
                  rw [f0 5 j (by omega), hh2]
                  by_cases e3 : 0 < hh
                  · have := hh3 e3
                    rw [h.1.2.2.1 j (by omega)] at this
                    cases this
                  · rw [show hh = 0 by omega]
                    rfl
                · simp
            · have o1 : owV b j = 99 := by
                unfold owV six
                rw [if_neg (by omega)]
                repeat' split
                all_goals omega
              have o2 : ¬ (0 ≤ owI b j ∧ owI b j < 0 + 6) := by
                unfold owI six
                repeat' split
                all_goals omega
              rw [o1, if_neg (by omega), if_neg o2, gI_tI, if_neg (by omega), gI_tI, if_neg (by omega)]
  · rw [gL_dropM]
    simp only [gL_tI]
    rw [rL' b j, cL b j]
    simp only [gL_tI]
    by_cases e : owL b j < 6
    · rw [if_pos (show 0 ≤ owL b j ∧ owL b j < 0 + 6 by omega), cvG_L]
      by_cases e2 : owL b j < n
      · rw [if_pos (by omega), rvB_L]
        simp only [gL_tI]
      · rw [if_neg (by omega), hbj _ (by omega)]
        simp only [reduceCtorEq, false_and, if_false, gL_tI]
    · rw [if_neg (by omega), if_neg (by omega)]
