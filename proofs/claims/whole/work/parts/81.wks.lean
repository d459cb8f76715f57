/-! L2: the text of a work: what was read is a work that can run. -/
def pg (acc : List Q4) : Pg := (fun i => (acc.getD i q0).1, fun i => (acc.getD i q0).2.1, fun i => (acc.getD i q0).2.2.1, fun i => (acc.getD i q0).2.2.2)
theorem NSb_c {P P' : Nat → Nat → Prop} {p p' : Pg} : ∀ (e f t : Nat), (∀ i, f ≤ i → i < t → pK p' i = pK p i ∧ pN p' i = pN p i) → (∀ f' t', f < f' → f' ≤ t' → t' ≤ t → P f' t' → P' f' t') → NSb P p e f t → NSb P' p' e f t := by
  intro e
  induction e with
  | zero =>
    intro f t _ _ h
    exact h
  | succ e ih =>
    intro f t hp hq h
    rw [NSb] at h ⊢
    rcases h with h | ⟨h1, h⟩
    · exact .inl h
    · refine .inr ⟨h1, ?_⟩
      have hf := hp f (Nat.le_refl _) h1
      rcases h with ⟨h2, h3⟩ | ⟨h2, h3, h4, h5, h6⟩
      · refine .inl ⟨by rw [hf.1]; exact h2, ih _ _ (fun i a b => hp i (by omega) b) (fun f' t' a b c => hq f' t' (by omega) b c) h3⟩
      · refine .inr ⟨by rw [hf.1]; exact h2, by rw [hf.2]; exact h3, by rw [hf.2]; exact h4, ?_, ?_⟩
        · rw [hf.2]
          exact hq _ _ (by omega) (by omega) h4 h5
        · rw [hf.2]
          exact ih _ _ (fun i a b => hp i (by omega) b) (fun f' t' a b c => hq f' t' (by omega) b c) h6
theorem NS_c : ∀ (d : Nat) {p p' : Pg} (f t : Nat), (∀ i, f ≤ i → i < t → pK p' i = pK p i ∧ pN p' i = pN p i) → NS p d f t → NS p' d f t := by
  intro d
  induction d with
  | zero =>
    intro p p' f t hp h
    rw [NS] at h ⊢
    exact NSb_c 150 f t hp (fun _ _ _ _ _ z => z) h
  | succ d ih =>
    intro p p' f t hp h
    rw [NS] at h ⊢
    exact NSb_c 150 f t hp (fun f' t' a b c z => ih f' t' (fun i u v => hp i (by omega) (by omega)) z) h
def Pk (p : Pg) : Nat → Nat → Nat → Prop
  | 0 => fun _ _ => False
  | k + 1 => NS p k
theorem NS_Pk (p : Pg) (k : Nat) : NS p k = NSb (Pk p k) p 150 := by
  cases k with
  | zero => rw [NS]; rfl
  | succ k => rw [NS]; rfl
def ItOk (N : Nat) (q : Q4) : Prop := q.1 ≤ 10 ∧ (q.1 < 7 → q.2.1 < N) ∧ (q.1 = 7 → q.2.1 ≤ 63) ∧ (q.1 = 10 → q.2.1 ≤ 60) ∧ (q.1 = 10 → q.2.2.2 ≠ 0)
def Gd (N k : Nat) (S : List Q4 → Nat → SR) : Prop := ∀ acc a acc' e, S acc a = .inl (acc', e) → acc'.length ≤ 150 → (NS (pg acc') k acc.length acc'.length ∧ ∀ i, acc.length ≤ i → i < acc'.length → ItOk N (acc'.getD i q0))
theorem numP_lt {x : Nat → Nat} {n a lo h v e : Nat} (w : numP x n a lo h = .inl (v, e)) : v < h := by
  unfold numP at w
  split at w
  · split at w
    · rename_i q
      cases w
      exact q.2
    · cases w
  · cases w
theorem pre_k (acc : List Q4) (q : Q4) : (acc ++ [q]).getD acc.length q0 = q := by rw [getD_s, if_pos rfl]
/-- one step more -/
def Mo (N k : Nat) (acc acc' : List Q4) : Prop := (∀ i, acc.length ≤ i → i < acc'.length → ItOk N (acc'.getD i q0)) ∧ ((pK (pg acc') acc.length ≠ 10 ∧ acc'.length = acc.length + 1) ∨ (pK (pg acc') acc.length = 10 ∧ pN (pg acc') acc.length = acc'.length ∧ Pk (pg acc') k (acc.length + 1) acc'.length))
theorem Mo_s {N k : Nat} {acc : List Q4} {q : Q4} (h : ItOk N q) (h10 : q.1 ≠ 10) : Mo N k acc (acc ++ [q]) := by
  refine ⟨fun i h1 h2 => ?_, .inl ⟨?_, len_q _ _⟩⟩
  · rw [len_q] at h2
    rw [show i = acc.length by omega, pre_k]
    exact h
  · show ((acc ++ [q]).getD acc.length q0).1 ≠ 10
    rw [pre_k]
    exact h10
theorem stP_Mo {x : Nat → Nat} {n N k : Nat} {S : List Q4 → Nat → SR} (hp : PreP S) (hS : 0 < k → Gd N (k - 1) S) {acc : List Q4} {b : Nat} {acc' : List Q4} {e : Nat} (h : stP x n N S k acc b = .inl (acc', e)) (hL : acc'.length ≤ 150) : Mo N k acc acc' := by
  have hle := kwS_le x n b
  unfold stP at h
  by_cases q11 : kwS x n b = 11
  · rw [if_pos q11] at h
    cases h
  · rw [if_neg q11] at h
    by_cases q10 : kwS x n b = 10
    · rw [if_pos q10] at h
      by_cases qk : k = 0
      · rw [if_pos qk] at h
        cases h
      · rw [if_neg qk] at h
        obtain ⟨v, e1, e2, acc2, e3, a1, a2, a3, a4, a5, a6, a7, a8⟩ := agP_pre hp h
        subst a5
        rw [List.length_set] at hL
        obtain ⟨s1, s2⟩ := hS (by omega) _ _ _ _ a3 hL
        rw [len_q] at s1 s2
        have hv := numP_lt a1
        have hg : ∀ i, (acc2.set acc.length (10, v, 0, acc2.length)).getD i q0 = if i = acc.length then (10, v, 0, acc2.length) else acc2.getD i q0 := fun i => getD_set _ _ _ _ a6
        have hk : pK (pg (acc2.set acc.length (10, v, 0, acc2.length))) acc.length = 10 := by
          show ((acc2.set acc.length (10, v, 0, acc2.length)).getD acc.length q0).1 = 10
          rw [hg, if_pos rfl]
        have hn : pN (pg (acc2.set acc.length (10, v, 0, acc2.length))) acc.length = acc2.length := by
          show ((acc2.set acc.length (10, v, 0, acc2.length)).getD acc.length q0).2.2.2 = acc2.length
          rw [hg, if_pos rfl]
        refine ⟨fun i h1 h2 => ?_, .inr ⟨hk, by rw [hn, List.length_set], ?_⟩⟩
        · rw [hg]
          rw [List.length_set] at h2
          by_cases ei : i = acc.length
          · rw [if_pos ei]
            exact ⟨Nat.le_refl 10, fun z => absurd z (show ¬ (10 : Nat) < 7 by decide), fun z => absurd z (show ¬ (10 : Nat) = 7 by decide), fun _ => (show v ≤ 60 by omega), fun _ => (show acc2.length ≠ 0 by omega)⟩
          · rw [if_neg ei]
            exact s2 i (by omega) h2
        · rw [List.length_set]
          obtain ⟨k, rfl⟩ : ∃ z, k = z + 1 := ⟨k - 1, by omega⟩
          rw [Nat.add_sub_cancel] at s1
          show NS _ k _ _
          refine NS_c k _ _ (fun i h1 h2 => ?_) s1
          have hi := hg i
          rw [if_neg (by omega)] at hi
          exact ⟨congrArg (fun z : Q4 => z.1) hi, congrArg (fun z : Q4 => z.2.2.2) hi⟩
    · rw [if_neg q10] at h
      by_cases q8 : 8 ≤ kwS x n b
      · rw [if_pos q8] at h
        cases h
        exact Mo_s ⟨by dsimp only; omega, fun z => by dsimp only at z; omega, fun z => by dsimp only at z; omega, fun z => by dsimp only at z; omega, fun z => by dsimp only at z; omega⟩ q10
      · rw [if_neg q8] at h
        cases p1 : numP x n (wE x n b) 0 (if kwS x n b = 7 then 64 else N) with
        | inr q => rw [p1] at h; cases h
        | inl q =>
          obtain ⟨av, e1⟩ := q
          rw [p1] at h
          dsimp only at h
          have hv := numP_lt p1
          by_cases qz : kwS x n b = 0
          · rw [if_pos qz] at h
            rw [if_neg (by omega)] at hv
            cases p2 : numP x n e1 0 1000 with
            | inr q => rw [p2] at h; cases h
            | inl q =>
              obtain ⟨vv, e2⟩ := q
              rw [p2] at h
              cases h
              exact Mo_s ⟨Nat.zero_le _, fun _ => hv, fun z => (by cases z), fun z => (by cases z), fun z => (by cases z)⟩ (show ¬ (0 : Nat) = 10 by decide)
          · rw [if_neg qz] at h
            cases h
            refine Mo_s ⟨by dsimp only; omega, fun z => ?_, fun z => ?_, fun z => absurd z q10, fun z => absurd z q10⟩ q10
            · dsimp only at z ⊢
              rw [if_neg (by omega)] at hv
              exact hv
            · dsimp only at z ⊢
              rw [if_pos z] at hv
              omega
theorem stsP_Gd {x : Nat → Nat} {n N k : Nat} {top : Bool} {S : List Q4 → Nat → SR} (hp : PreP S) (hS : 0 < k → Gd N (k - 1) S) : ∀ f acc a acc' e, stsP x n N top S k f acc a = .inl (acc', e) → acc'.length ≤ 150 →
    ((∀ d, acc'.length - acc.length ≤ d → NSb (Pk (pg acc') k) (pg acc') d acc.length acc'.length) ∧ ∀ i, acc.length ≤ i → i < acc'.length → ItOk N (acc'.getD i q0)) := by
  intro f
  induction f with
  | zero =>
    intro acc a acc' e h hL
    rw [stsP] at h
    cases h
    refine ⟨fun d _ => ?_, fun i h1 h2 => by omega⟩
    cases d with
    | zero => rw [NSb]
    | succ d => rw [NSb]; exact .inl rfl
  | succ f ih =>
    intro acc a acc' e h hL
    rw [stsP] at h
    by_cases c : (if top then n ≤ blk x n a else blk x n a < n ∧ x (blk x n a) = 93)
    · rw [if_pos c] at h
      cases h
      refine ⟨fun d _ => ?_, fun i h1 h2 => by omega⟩
      cases d with
      | zero => rw [NSb]
      | succ d => rw [NSb]; exact .inl rfl
    · rw [if_neg c] at h
      cases p1 : stP x n N S k acc (blk x n a) with
      | inr q => rw [p1] at h; cases h
      | inl q =>
        obtain ⟨acc1, e1⟩ := q
        rw [p1] at h
        dsimp only at h
        cases p2 : sgnP x n e1 59 with
        | inr q => rw [p2] at h; cases h
        | inl e2 =>
          rw [p2] at h
          dsimp only at h
          have lt := stP_lt hp p1
          obtain ⟨b1, b2⟩ := stsP_pre hp _ _ _ _ _ h
          obtain ⟨c1, c2⟩ := ih _ _ _ _ h hL
          obtain ⟨d1, d2⟩ := stP_Mo hp hS p1 (by omega)
          refine ⟨fun d hd => ?_, fun i h1 h2 => ?_⟩
          · obtain ⟨d, rfl⟩ : ∃ z, d = z + 1 := ⟨d - 1, by omega⟩
            rw [NSb]
            refine .inr ⟨by omega, ?_⟩
            have e0 := b2 acc.length lt
            have eK : pK (pg acc') acc.length = pK (pg acc1) acc.length := congrArg (fun z : Q4 => z.1) e0
            have eN : pN (pg acc') acc.length = pN (pg acc1) acc.length := congrArg (fun z : Q4 => z.2.2.2) e0
            rw [eK, eN]
            rcases d2 with ⟨z1, z2⟩ | ⟨z1, z2, z3⟩
            · refine .inl ⟨z1, ?_⟩
              rw [← z2]
              exact c1 d (by omega)
            · refine .inr ⟨z1, by omega, by omega, ?_, ?_⟩
              · rw [z2]
                cases k with
                | zero => exact z3.elim
                | succ k =>
                  refine NS_c k _ _ (fun i h1 h2 => ?_) z3
                  have hi := b2 i h2
                  exact ⟨congrArg (fun z : Q4 => z.1) hi, congrArg (fun z : Q4 => z.2.2.2) hi⟩
              · rw [z2]
                exact c1 d (by omega)
          · by_cases hi : i < acc1.length
            · rw [b2 i hi]
              exact d1 i h1 hi
            · exact c2 i (by omega) h2
theorem stL_Gd {x : Nat → Nat} {n N : Nat} : ∀ k, Gd N k (stL x n N k) := by
  intro k
  induction k with
  | zero =>
    intro acc a acc' e h hL
    rw [stL] at h
    obtain ⟨c1, c2⟩ := stsP_Gd (fun _ _ _ _ h => by cases h) (fun z => by omega) _ _ _ _ _ h hL
    rw [NS_Pk]
    exact ⟨c1 150 (by omega), c2⟩
  | succ k ih =>
    intro acc a acc' e h hL
    rw [stL] at h
    obtain ⟨c1, c2⟩ := stsP_Gd (stL_pre k) (fun _ => by rw [Nat.add_sub_cancel]; exact ih) _ _ _ _ _ h hL
    rw [NS_Pk]
    exact ⟨c1 150 (by omega), c2⟩
theorem wkP_Gd {x : Nat → Nat} {n N e : Nat} {acc : List Q4} (h : wkP x n N = .inl (acc, e)) (hL : acc.length ≤ 150) : NS (pg acc) 6 0 acc.length ∧ WP N (pg acc) acc.length ∧ ∀ i, i < acc.length → pK (pg acc) i = 10 → pN (pg acc) i ≠ 0 := by
  unfold wkP at h
  obtain ⟨c1, c2⟩ := stsP_Gd (stL_pre 5) (fun _ => stL_Gd 5) _ _ _ _ _ h hL
  rw [NS_Pk]
  refine ⟨c1 150 (by omega), fun i hi => ?_, fun i hi => ?_⟩
  · obtain ⟨z1, z2, z3, z4, z5⟩ := c2 i (Nat.zero_le _) hi
    exact ⟨z1, z2, z3, z4⟩
  · exact (c2 i (Nat.zero_le _) hi).2.2.2.2
theorem WD_CP {acc : List Q4} {m : Mm} (h : WD acc m) : CP (pg acc) acc.length m := by
  obtain ⟨h1, h2, h3⟩ := h
  refine ⟨h2, fun i hi => ?_⟩
  obtain ⟨a1, a2, a3⟩ := h3 i hi
  refine ⟨a1, a2, fun z => ?_, fun z => ?_⟩
  · rw [a3]
    unfold sc9
    rw [if_neg (show ¬ (acc.getD i q0).1 = 10 by rw [show (acc.getD i q0).1 = 0 from z]; decide)]
    rfl
  · rw [a3]
    unfold sc9
    rw [if_pos (show (acc.getD i q0).1 = 10 from z)]
    rfl
theorem WQ_RP {acc : List Q4} {m : Mm} (h : WQ acc m) (hl : acc.length ≤ 80) (hN : ∀ i, i < acc.length → pK (pg acc) i = 10 → pN (pg acc) i ≠ 0) : RP (pg acc) acc.length m := by
  refine ⟨hl, fun i hi => ?_⟩
  obtain ⟨a1, a2, a3, a4, a5⟩ := h i hi
  refine ⟨a1, a2, a3, ?_⟩
  by_cases z : pK (pg acc) i = 10
  · rw [if_pos z]
    exact a5 z (hN i hi z)
  · rw [if_neg z]
    exact a4 z
