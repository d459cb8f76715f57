/-! L2: the text of a law: what was read can be done by a stack. -/
def cd (acc : List Nat) : Nat → Nat := fun i => acc.getD i 0
def Okl (acc : List Nat) : Prop := ∀ i, i < acc.length → cd acc i ≤ 1010 ∧ (1004 ≤ cd acc i → 2 ≤ dpt (cd acc) i)
def dpl (acc : List Nat) : Nat := dpt (cd acc) acc.length
theorem dpt_c {cs cs' : Nat → Nat} : ∀ i, (∀ j, j < i → cs' j = cs j) → dpt cs' i = dpt cs i := by
  intro i
  induction i with
  | zero => intro _; rfl
  | succ i ih =>
    intro h
    rw [dpt, dpt, h i (by omega), ih (fun j hj => h j (by omega))]
theorem len_n (l : List Nat) (v : Nat) : (l ++ [v]).length = l.length + 1 := by rw [List.length_append]; rfl
theorem cd_s (acc : List Nat) (c i : Nat) : cd (acc ++ [c]) i = if i = acc.length then c else cd acc i := by
  unfold cd
  rw [List.getD_eq_getElem?_getD, List.getD_eq_getElem?_getD]
  by_cases e : i = acc.length
  · rw [if_pos e, e, List.getElem?_append_right (Nat.le_refl _), Nat.sub_self]
    rfl
  · rw [if_neg e]
    by_cases h : i < acc.length
    · rw [List.getElem?_append_left h]
    · rw [List.getElem?_eq_none (by rw [len_n]; omega), List.getElem?_eq_none (by omega)]
theorem dpt_s (acc : List Nat) (c i : Nat) (hi : i ≤ acc.length) : dpt (cd (acc ++ [c])) i = dpt (cd acc) i := dpt_c i (fun j hj => by rw [cd_s, if_neg (by omega)])
theorem dpl_s (acc : List Nat) (c : Nat) : dpl (acc ++ [c]) = if c < 1004 then dpl acc + 1 else dpl acc - 1 := by
  unfold dpl
  rw [len_n, dpt, cd_s, if_pos rfl, dpt_s _ _ _ (Nat.le_refl _)]
theorem Okl_s {acc : List Nat} {c : Nat} (h : Okl acc) (hc : c ≤ 1010) (h2 : 1004 ≤ c → 2 ≤ dpl acc) : Okl (acc ++ [c]) := by
  intro i hi
  rw [len_n] at hi
  rw [dpt_s _ _ _ (by omega), cd_s]
  by_cases e : i = acc.length
  · rw [if_pos e, e]
    exact ⟨hc, h2⟩
  · rw [if_neg e]
    exact h i (by omega)
def Gl (S : List Nat → Nat → LR) : Prop := ∀ acc a acc' e, S acc a = .inl (acc', e) → Okl acc → Okl acc' ∧ dpl acc' = dpl acc + 1
theorem pairP_Gl {x : Nat → Nat} {n c : Nat} {S : List Nat → Nat → LR} (hS : Gl S) (hc : c ≤ 1010) (h4 : 1004 ≤ c) : Gl (pairP x n S c) := by
  intro acc a acc' e h ok
  unfold pairP at h
  cases p1 : sgnP x n a 91 with
  | inr q => rw [p1] at h; cases h
  | inl e1 =>
    rw [p1] at h
    dsimp only at h
    cases p2 : S acc e1 with
    | inr q => rw [p2] at h; cases h
    | inl q =>
      obtain ⟨acc1, e2⟩ := q
      rw [p2] at h
      dsimp only at h
      obtain ⟨a1, a2⟩ := hS _ _ _ _ p2 ok
      cases p3 : sgnP x n e2 44 with
      | inr q => rw [p3] at h; cases h
      | inl e3 =>
        rw [p3] at h
        dsimp only at h
        cases p4 : S acc1 e3 with
        | inr q => rw [p4] at h; cases h
        | inl q =>
          obtain ⟨acc2, e4⟩ := q
          rw [p4] at h
          dsimp only at h
          obtain ⟨b1, b2⟩ := hS _ _ _ _ p4 a1
          cases p5 : sgnP x n e4 93 with
          | inr q => rw [p5] at h; cases h
          | inl e5 =>
            rw [p5] at h
            cases h
            refine ⟨Okl_s b1 hc (fun _ => by omega), ?_⟩
            rw [dpl_s, if_neg (by omega)]
            omega
theorem wordP_Gl {x : Nat → Nat} {n k : Nat} {S : List Nat → Nat → LR} (hS : k ≠ 0 → Gl S) : Gl (wordP x n S k) := by
  intro acc a acc' e h ok
  have hle := kwL_le x n a
  unfold wordP at h
  split at h
  · cases h
  · split at h
    · cases h
    · split at h
      · rename_i q
        cases h
        refine ⟨Okl_s ok (by omega) (fun z => by omega), ?_⟩
        rw [dpl_s, if_pos q]
      · split at h
        · cases h
        · rename_i q k0
          exact pairP_Gl (hS k0) (by omega) (by omega) _ _ _ _ h ok
theorem parP_Gl {x : Nat → Nat} {n : Nat} {S : List Nat → Nat → LR} (hS : Gl S) : Gl (parP x n S) := by
  intro acc a acc' e h ok
  unfold parP at h
  cases p2 : S acc a with
  | inr q => rw [p2] at h; cases h
  | inl q =>
    obtain ⟨acc1, e2⟩ := q
    rw [p2] at h
    dsimp only at h
    cases p3 : sgnP x n e2 41 with
    | inr q => rw [p3] at h; cases h
    | inl e3 =>
      rw [p3] at h
      cases h
      exact hS _ _ _ _ p2 ok
theorem oneP_Gl {x : Nat → Nat} {n k : Nat} {S : List Nat → Nat → LR} (hS : k ≠ 0 → Gl S) : Gl (oneP x n S k) := by
  intro acc a acc' e h ok
  unfold oneP at h
  split at h
  · cases p1 : numP x n (blk x n a) 0 1000 with
    | inr q => rw [p1] at h; cases h
    | inl q =>
      obtain ⟨v, e1⟩ := q
      rw [p1] at h
      cases h
      have hv := numP_lt p1
      refine ⟨Okl_s ok (by omega) (fun z => by omega), ?_⟩
      rw [dpl_s, if_pos (by omega)]
  · split at h
    · split at h
      · cases h
      · rename_i k0
        exact parP_Gl (hS k0) _ _ _ _ h ok
    · exact wordP_Gl hS _ _ _ _ h ok
theorem prP_Gl {x : Nat → Nat} {n : Nat} {U : List Nat → Nat → LR} (hU : Gl U) : ∀ f acc a acc' e, prP x n U f acc a = .inl (acc', e) → Okl acc → 1 ≤ dpl acc → Okl acc' ∧ dpl acc' = dpl acc := by
  intro f
  induction f with
  | zero =>
    intro acc a acc' e h ok hd
    rw [prP] at h
    cases h
    exact ⟨ok, rfl⟩
  | succ f ih =>
    intro acc a acc' e h ok hd
    rw [prP] at h
    have hle := sgL_le x n (blk x n a)
    split at h
    · cases p2 : U acc (blk x n a + 1) with
      | inr q => rw [p2] at h; cases h
      | inl q =>
        obtain ⟨acc1, e2⟩ := q
        rw [p2] at h
        dsimp only at h
        obtain ⟨a1, a2⟩ := hU _ _ _ _ p2 ok
        have d1 : dpl (acc1 ++ [sgL x n (blk x n a)]) = dpl acc := by
          rw [dpl_s, if_neg (by omega)]
          omega
        obtain ⟨b1, b2⟩ := ih _ _ _ _ h (Okl_s a1 (by omega) (fun _ => by omega)) (by omega)
        exact ⟨b1, by omega⟩
    · cases h
      exact ⟨ok, rfl⟩
theorem prodP_Gl {x : Nat → Nat} {n : Nat} {U : List Nat → Nat → LR} (hU : Gl U) : Gl (prodP x n U) := by
  intro acc a acc' e h ok
  unfold prodP at h
  cases p2 : U acc a with
  | inr q => rw [p2] at h; cases h
  | inl q =>
    obtain ⟨acc1, e2⟩ := q
    rw [p2] at h
    dsimp only at h
    obtain ⟨a1, a2⟩ := hU _ _ _ _ p2 ok
    obtain ⟨b1, b2⟩ := prP_Gl hU _ _ _ _ _ h a1 (by omega)
    exact ⟨b1, by omega⟩
theorem smP_Gl {x : Nat → Nat} {n : Nat} {U : List Nat → Nat → LR} (hU : Gl U) : ∀ f acc a acc' e, smP x n U f acc a = .inl (acc', e) → Okl acc → 1 ≤ dpl acc → Okl acc' ∧ dpl acc' = dpl acc := by
  intro f
  induction f with
  | zero =>
    intro acc a acc' e h ok hd
    rw [smP] at h
    cases h
    exact ⟨ok, rfl⟩
  | succ f ih =>
    intro acc a acc' e h ok hd
    rw [smP] at h
    have hle := sgL_le x n (blk x n a)
    split at h
    · cases p2 : prodP x n U acc (blk x n a + 1) with
      | inr q => rw [p2] at h; cases h
      | inl q =>
        obtain ⟨acc1, e2⟩ := q
        rw [p2] at h
        dsimp only at h
        obtain ⟨a1, a2⟩ := prodP_Gl hU _ _ _ _ p2 ok
        have d1 : dpl (acc1 ++ [sgL x n (blk x n a)]) = dpl acc := by
          rw [dpl_s, if_neg (by omega)]
          omega
        obtain ⟨b1, b2⟩ := ih _ _ _ _ h (Okl_s a1 (by omega) (fun _ => by omega)) (by omega)
        exact ⟨b1, by omega⟩
    · cases h
      exact ⟨ok, rfl⟩
theorem sumP_Gl {x : Nat → Nat} {n : Nat} {U : List Nat → Nat → LR} (hU : Gl U) : Gl (sumP x n U) := by
  intro acc a acc' e h ok
  unfold sumP at h
  cases p2 : prodP x n U acc a with
  | inr q => rw [p2] at h; cases h
  | inl q =>
    obtain ⟨acc1, e2⟩ := q
    rw [p2] at h
    dsimp only at h
    obtain ⟨a1, a2⟩ := prodP_Gl hU _ _ _ _ p2 ok
    obtain ⟨b1, b2⟩ := smP_Gl hU _ _ _ _ _ h a1 (by omega)
    exact ⟨b1, by omega⟩
theorem sumL_Gl {x : Nat → Nat} {n : Nat} : ∀ k, Gl (sumL x n k) := by
  intro k
  induction k with
  | zero =>
    rw [sumL]
    exact sumP_Gl (oneP_Gl (fun z => absurd rfl z))
  | succ k ih =>
    rw [sumL]
    exact sumP_Gl (oneP_Gl (fun _ => ih))
theorem sumL_WFl {x : Nat → Nat} {n k a e : Nat} {acc : List Nat} (h : sumL x n k [] a = .inl (acc, e)) (hL : acc.length ≤ 150) : WFl (cd acc) acc.length := by
  obtain ⟨a1, a2⟩ := sumL_Gl k _ _ _ _ h (fun i hi => by simp only [List.length_nil] at hi; omega)
  have d0 : dpl acc = 1 := a2
  have hle := dpt_le (cd acc) acc.length
  unfold dpl at d0
  exact ⟨a1, by omega, by omega, hL⟩
