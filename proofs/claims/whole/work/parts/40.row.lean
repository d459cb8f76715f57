/-! L2: the reference's rows. ρ: a row's ints; σ: a State's contents. -/
def hi9 (x : Int64) : Int32 := (x >>> ((32 : Int32).toInt64 &&& 63)).toInt32
def lo9 (x : Int64) : Int32 := x.toInt32
def RR (ρ : Nat → Int32) (σ : St) : Prop :=
  (∀ i, i < 6 → ρ i = gI σ 1 i) ∧
  (∀ i, i < 6 → ρ (6 + i) = if 0 < gI σ 1 i then gI σ 7 i else -1) ∧
  (∀ i, i < 6 → ρ (12 + i) = gI σ 2 i) ∧
  (∀ i, i < 6 → ρ (18 + i) = gI σ 3 i) ∧
  (∀ i, i < 6 → ∀ k, tb (ρ (24 + i)) k = (decide (k < 30) && tb (gI σ 10 k) i)) ∧
  (∀ i, i < 6 → ρ (30 + i) = gI σ 5 i) ∧
  (∀ j, j < 36 → ρ (36 + j) = gI σ 4 j) ∧
  (∀ i, i < 6 → ∀ j, j < 8 → j < ix (gI σ 5 i) → ρ (72 + 8 * i + j) = gI σ 6 (i * 8 + j)) ∧
  (∀ k, k < 30 → k < ix (gI σ 0 7) → ρ (120 + k) = gI σ 8 k) ∧
  (∀ k, k < 30 → k < ix (gI σ 0 7) → ρ (150 + k) = gI σ 9 k) ∧
  ρ 180 = gI σ 0 6 ∧ ρ 181 = gI σ 0 0 ∧ ρ 182 = gI σ 0 1 ∧ ρ 183 = gI σ 0 2 ∧ ρ 184 = gI σ 0 3 ∧ ρ 185 = gI σ 0 4 ∧ ρ 186 = gI σ 0 5 ∧ ρ 187 = gI σ 0 7 ∧
  (∀ i, i < 6 → ρ (188 + 2 * i) = hi9 (gL σ 11 i) ∧ ρ (188 + 2 * i + 1) = lo9 (gL σ 11 i)) ∧
  (∀ i, i < 6 → ∀ j, j < 64 → j < ix (gI σ 7 i) → ρ (200 + 2 * (64 * i + j)) = hi9 (gL σ 12 (i * 64 + j)) ∧ ρ (200 + 2 * (64 * i + j) + 1) = lo9 (gL σ 12 (i * 64 + j)))
theorem RR_got {ρ : Nat → Int32} {σ : St}  {a : Nat} {v : Int32} (h : RR ρ σ) (ha : a < 6) : RR (uf ρ (12 + a) v) (tI σ 2 a v) := by
  obtain ⟨h1, h2, h3, h4, h5, h6, h7, h8, h9, h10, h11, h12, h13, h14, h15, h16, h17, h18, h19, h20⟩ := h
  refine ⟨?_, ?_, ?_, ?_, ?_, ?_, ?_, ?_, ?_, ?_, ?_, ?_, ?_, ?_, ?_, ?_, ?_, ?_, ?_, ?_⟩
  · intro i hi
    have q := h1 i hi
    simp (disch := omega) only [uf_ap, gI_tI, gI_tL, gL_tI, gL_tL, if_pos, if_neg, if_true, if_false, and_self] <;> exact q
  · intro i hi
    have q := h2 i hi
    simp (disch := omega) only [uf_ap, gI_tI, gI_tL, gL_tI, gL_tL, if_pos, if_neg, if_true, if_false, and_self] <;> exact q
  · intro i hi
    have q := h3 i hi
    by_cases e : i = a
    · simp (disch := omega) only [uf_ap, gI_tI, gI_tL, gL_tI, gL_tL, if_pos, if_neg, if_true, if_false, e, and_self] <;> exact q
    · simp (disch := omega) only [uf_ap, gI_tI, gI_tL, gL_tI, gL_tL, if_pos, if_neg, if_true, if_false, e, and_self] <;> exact q
  · intro i hi
    have q := h4 i hi
    simp (disch := omega) only [uf_ap, gI_tI, gI_tL, gL_tI, gL_tL, if_pos, if_neg, if_true, if_false, and_self] <;> exact q
  · intro i hi k
    have q := h5 i hi k
    simp (disch := omega) only [uf_ap, gI_tI, gI_tL, gL_tI, gL_tL, if_pos, if_neg, if_true, if_false, and_self] <;> exact q
  · intro i hi
    have q := h6 i hi
    simp (disch := omega) only [uf_ap, gI_tI, gI_tL, gL_tI, gL_tL, if_pos, if_neg, if_true, if_false, and_self] <;> exact q
  · intro j hj
    have q := h7 j hj
    simp (disch := omega) only [uf_ap, gI_tI, gI_tL, gL_tI, gL_tL, if_pos, if_neg, if_true, if_false, and_self] <;> exact q
  · intro i hi j hj hl
    have q := h8 i hi j hj hl
    simp (disch := omega) only [uf_ap, gI_tI, gI_tL, gL_tI, gL_tL, if_pos, if_neg, if_true, if_false, and_self] <;> exact q
  · intro k hk hl
    have q := h9 k hk hl
    simp (disch := omega) only [uf_ap, gI_tI, gI_tL, gL_tI, gL_tL, if_pos, if_neg, if_true, if_false, and_self] <;> exact q
  · intro k hk hl
    have q := h10 k hk hl
    simp (disch := omega) only [uf_ap, gI_tI, gI_tL, gL_tI, gL_tL, if_pos, if_neg, if_true, if_false, and_self] <;> exact q
  · have q := h11 
    simp (disch := omega) only [uf_ap, gI_tI, gI_tL, gL_tI, gL_tL, if_pos, if_neg, if_true, if_false, and_self] <;> exact q
  · have q := h12 
    simp (disch := omega) only [uf_ap, gI_tI, gI_tL, gL_tI, gL_tL, if_pos, if_neg, if_true, if_false, and_self] <;> exact q
  · have q := h13 
    simp (disch := omega) only [uf_ap, gI_tI, gI_tL, gL_tI, gL_tL, if_pos, if_neg, if_true, if_false, and_self] <;> exact q
  · have q := h14 
    simp (disch := omega) only [uf_ap, gI_tI, gI_tL, gL_tI, gL_tL, if_pos, if_neg, if_true, if_false, and_self] <;> exact q
  · have q := h15 
    simp (disch := omega) only [uf_ap, gI_tI, gI_tL, gL_tI, gL_tL, if_pos, if_neg, if_true, if_false, and_self] <;> exact q
  · have q := h16 
    simp (disch := omega) only [uf_ap, gI_tI, gI_tL, gL_tI, gL_tL, if_pos, if_neg, if_true, if_false, and_self] <;> exact q
  · have q := h17 
    simp (disch := omega) only [uf_ap, gI_tI, gI_tL, gL_tI, gL_tL, if_pos, if_neg, if_true, if_false, and_self] <;> exact q
  · have q := h18 
    simp (disch := omega) only [uf_ap, gI_tI, gI_tL, gL_tI, gL_tL, if_pos, if_neg, if_true, if_false, and_self] <;> exact q
  · intro i hi
    have q := h19 i hi
    simp (disch := omega) only [uf_ap, gI_tI, gI_tL, gL_tI, gL_tL, if_pos, if_neg, if_true, if_false, and_self] <;> exact q
  · intro i hi j hj hl
    have q := h20 i hi j hj hl
    simp (disch := omega) only [uf_ap, gI_tI, gI_tL, gL_tI, gL_tL, if_pos, if_neg, if_true, if_false, and_self] <;> exact q
theorem RR_kept {ρ : Nat → Int32} {σ : St}  {a : Nat} {v : Int32} (h : RR ρ σ) (ha : a < 6) : RR (uf ρ (18 + a) v) (tI σ 3 a v) := by
  obtain ⟨h1, h2, h3, h4, h5, h6, h7, h8, h9, h10, h11, h12, h13, h14, h15, h16, h17, h18, h19, h20⟩ := h
  refine ⟨?_, ?_, ?_, ?_, ?_, ?_, ?_, ?_, ?_, ?_, ?_, ?_, ?_, ?_, ?_, ?_, ?_, ?_, ?_, ?_⟩
  · intro i hi
    have q := h1 i hi
    simp (disch := omega) only [uf_ap, gI_tI, gI_tL, gL_tI, gL_tL, if_pos, if_neg, if_true, if_false, and_self] <;> exact q
  · intro i hi
    have q := h2 i hi
    simp (disch := omega) only [uf_ap, gI_tI, gI_tL, gL_tI, gL_tL, if_pos, if_neg, if_true, if_false, and_self] <;> exact q
  · intro i hi
    have q := h3 i hi
    simp (disch := omega) only [uf_ap, gI_tI, gI_tL, gL_tI, gL_tL, if_pos, if_neg, if_true, if_false, and_self] <;> exact q
  · intro i hi
    have q := h4 i hi
    by_cases e : i = a
    · simp (disch := omega) only [uf_ap, gI_tI, gI_tL, gL_tI, gL_tL, if_pos, if_neg, if_true, if_false, e, and_self] <;> exact q
    · simp (disch := omega) only [uf_ap, gI_tI, gI_tL, gL_tI, gL_tL, if_pos, if_neg, if_true, if_false, e, and_self] <;> exact q
  · intro i hi k
    have q := h5 i hi k
    simp (disch := omega) only [uf_ap, gI_tI, gI_tL, gL_tI, gL_tL, if_pos, if_neg, if_true, if_false, and_self] <;> exact q
  · intro i hi
    have q := h6 i hi
    simp (disch := omega) only [uf_ap, gI_tI, gI_tL, gL_tI, gL_tL, if_pos, if_neg, if_true, if_false, and_self] <;> exact q
  · intro j hj
    have q := h7 j hj
    simp (disch := omega) only [uf_ap, gI_tI, gI_tL, gL_tI, gL_tL, if_pos, if_neg, if_true, if_false, and_self] <;> exact q
  · intro i hi j hj hl
    have q := h8 i hi j hj hl
    simp (disch := omega) only [uf_ap, gI_tI, gI_tL, gL_tI, gL_tL, if_pos, if_neg, if_true, if_false, and_self] <;> exact q
  · intro k hk hl
    have q := h9 k hk hl
    simp (disch := omega) only [uf_ap, gI_tI, gI_tL, gL_tI, gL_tL, if_pos, if_neg, if_true, if_false, and_self] <;> exact q
  · intro k hk hl
    have q := h10 k hk hl
    simp (disch := omega) only [uf_ap, gI_tI, gI_tL, gL_tI, gL_tL, if_pos, if_neg, if_true, if_false, and_self] <;> exact q
  · have q := h11 
    simp (disch := omega) only [uf_ap, gI_tI, gI_tL, gL_tI, gL_tL, if_pos, if_neg, if_true, if_false, and_self] <;> exact q
  · have q := h12 
    simp (disch := omega) only [uf_ap, gI_tI, gI_tL, gL_tI, gL_tL, if_pos, if_neg, if_true, if_false, and_self] <;> exact q
  · have q := h13 
    simp (disch := omega) only [uf_ap, gI_tI, gI_tL, gL_tI, gL_tL, if_pos, if_neg, if_true, if_false, and_self] <;> exact q
  · have q := h14 
    simp (disch := omega) only [uf_ap, gI_tI, gI_tL, gL_tI, gL_tL, if_pos, if_neg, if_true, if_false, and_self] <;> exact q
  · have q := h15 
    simp (disch := omega) only [uf_ap, gI_tI, gI_tL, gL_tI, gL_tL, if_pos, if_neg, if_true, if_false, and_self] <;> exact q
  · have q := h16 
    simp (disch := omega) only [uf_ap, gI_tI, gI_tL, gL_tI, gL_tL, if_pos, if_neg, if_true, if_false, and_self] <;> exact q
  · have q := h17 
    simp (disch := omega) only [uf_ap, gI_tI, gI_tL, gL_tI, gL_tL, if_pos, if_neg, if_true, if_false, and_self] <;> exact q
  · have q := h18 
    simp (disch := omega) only [uf_ap, gI_tI, gI_tL, gL_tI, gL_tL, if_pos, if_neg, if_true, if_false, and_self] <;> exact q
  · intro i hi
    have q := h19 i hi
    simp (disch := omega) only [uf_ap, gI_tI, gI_tL, gL_tI, gL_tL, if_pos, if_neg, if_true, if_false, and_self] <;> exact q
  · intro i hi j hj hl
    have q := h20 i hi j hj hl
    simp (disch := omega) only [uf_ap, gI_tI, gI_tL, gL_tI, gL_tL, if_pos, if_neg, if_true, if_false, and_self] <;> exact q
theorem RR_lore {ρ : Nat → Int32} {σ : St}  {b : Nat} {v : Int32} (h : RR ρ σ) (hb : b < 36) : RR (uf ρ (36 + b) v) (tI σ 4 b v) := by
  obtain ⟨h1, h2, h3, h4, h5, h6, h7, h8, h9, h10, h11, h12, h13, h14, h15, h16, h17, h18, h19, h20⟩ := h
  refine ⟨?_, ?_, ?_, ?_, ?_, ?_, ?_, ?_, ?_, ?_, ?_, ?_, ?_, ?_, ?_, ?_, ?_, ?_, ?_, ?_⟩
  · intro i hi
    have q := h1 i hi
    simp (disch := omega) only [uf_ap, gI_tI, gI_tL, gL_tI, gL_tL, if_pos, if_neg, if_true, if_false, and_self] <;> exact q
  · intro i hi
    have q := h2 i hi
    simp (disch := omega) only [uf_ap, gI_tI, gI_tL, gL_tI, gL_tL, if_pos, if_neg, if_true, if_false, and_self] <;> exact q
  · intro i hi
    have q := h3 i hi
    simp (disch := omega) only [uf_ap, gI_tI, gI_tL, gL_tI, gL_tL, if_pos, if_neg, if_true, if_false, and_self] <;> exact q
  · intro i hi
    have q := h4 i hi
    simp (disch := omega) only [uf_ap, gI_tI, gI_tL, gL_tI, gL_tL, if_pos, if_neg, if_true, if_false, and_self] <;> exact q
  · intro i hi k
    have q := h5 i hi k
    simp (disch := omega) only [uf_ap, gI_tI, gI_tL, gL_tI, gL_tL, if_pos, if_neg, if_true, if_false, and_self] <;> exact q
  · intro i hi
    have q := h6 i hi
    simp (disch := omega) only [uf_ap, gI_tI, gI_tL, gL_tI, gL_tL, if_pos, if_neg, if_true, if_false, and_self] <;> exact q
  · intro j hj
    have q := h7 j hj
    by_cases e : j = b
    · simp (disch := omega) only [uf_ap, gI_tI, gI_tL, gL_tI, gL_tL, if_pos, if_neg, if_true, if_false, e, and_self] <;> exact q
    · simp (disch := omega) only [uf_ap, gI_tI, gI_tL, gL_tI, gL_tL, if_pos, if_neg, if_true, if_false, e, and_self] <;> exact q
  · intro i hi j hj hl
    have q := h8 i hi j hj hl
    simp (disch := omega) only [uf_ap, gI_tI, gI_tL, gL_tI, gL_tL, if_pos, if_neg, if_true, if_false, and_self] <;> exact q
  · intro k hk hl
    have q := h9 k hk hl
    simp (disch := omega) only [uf_ap, gI_tI, gI_tL, gL_tI, gL_tL, if_pos, if_neg, if_true, if_false, and_self] <;> exact q
  · intro k hk hl
    have q := h10 k hk hl
    simp (disch := omega) only [uf_ap, gI_tI, gI_tL, gL_tI, gL_tL, if_pos, if_neg, if_true, if_false, and_self] <;> exact q
  · have q := h11 
    simp (disch := omega) only [uf_ap, gI_tI, gI_tL, gL_tI, gL_tL, if_pos, if_neg, if_true, if_false, and_self] <;> exact q
  · have q := h12 
    simp (disch := omega) only [uf_ap, gI_tI, gI_tL, gL_tI, gL_tL, if_pos, if_neg, if_true, if_false, and_self] <;> exact q
  · have q := h13 
    simp (disch := omega) only [uf_ap, gI_tI, gI_tL, gL_tI, gL_tL, if_pos, if_neg, if_true, if_false, and_self] <;> exact q
  · have q := h14 
    simp (disch := omega) only [uf_ap, gI_tI, gI_tL, gL_tI, gL_tL, if_pos, if_neg, if_true, if_false, and_self] <;> exact q
  · have q := h15 
    simp (disch := omega) only [uf_ap, gI_tI, gI_tL, gL_tI, gL_tL, if_pos, if_neg, if_true, if_false, and_self] <;> exact q
  · have q := h16 
    simp (disch := omega) only [uf_ap, gI_tI, gI_tL, gL_tI, gL_tL, if_pos, if_neg, if_true, if_false, and_self] <;> exact q
  · have q := h17 
    simp (disch := omega) only [uf_ap, gI_tI, gI_tL, gL_tI, gL_tL, if_pos, if_neg, if_true, if_false, and_self] <;> exact q
  · have q := h18 
    simp (disch := omega) only [uf_ap, gI_tI, gI_tL, gL_tI, gL_tL, if_pos, if_neg, if_true, if_false, and_self] <;> exact q
  · intro i hi
    have q := h19 i hi
    simp (disch := omega) only [uf_ap, gI_tI, gI_tL, gL_tI, gL_tL, if_pos, if_neg, if_true, if_false, and_self] <;> exact q
  · intro i hi j hj hl
    have q := h20 i hi j hj hl
    simp (disch := omega) only [uf_ap, gI_tI, gI_tL, gL_tI, gL_tL, if_pos, if_neg, if_true, if_false, and_self] <;> exact q
theorem RR_f6 {ρ : Nat → Int32} {σ : St}  {v : Int32} (h : RR ρ σ) : RR (uf ρ 180 v) (tI σ 0 6 v) := by
  obtain ⟨h1, h2, h3, h4, h5, h6, h7, h8, h9, h10, h11, h12, h13, h14, h15, h16, h17, h18, h19, h20⟩ := h
  refine ⟨?_, ?_, ?_, ?_, ?_, ?_, ?_, ?_, ?_, ?_, ?_, ?_, ?_, ?_, ?_, ?_, ?_, ?_, ?_, ?_⟩
  · intro i hi
    have q := h1 i hi
    simp (disch := omega) only [uf_ap, gI_tI, gI_tL, gL_tI, gL_tL, if_pos, if_neg, if_true, if_false, and_self] <;> exact q
  · intro i hi
    have q := h2 i hi
    simp (disch := omega) only [uf_ap, gI_tI, gI_tL, gL_tI, gL_tL, if_pos, if_neg, if_true, if_false, and_self] <;> exact q
  · intro i hi
    have q := h3 i hi
    simp (disch := omega) only [uf_ap, gI_tI, gI_tL, gL_tI, gL_tL, if_pos, if_neg, if_true, if_false, and_self] <;> exact q
  · intro i hi
    have q := h4 i hi
    simp (disch := omega) only [uf_ap, gI_tI, gI_tL, gL_tI, gL_tL, if_pos, if_neg, if_true, if_false, and_self] <;> exact q
  · intro i hi k
    have q := h5 i hi k
    simp (disch := omega) only [uf_ap, gI_tI, gI_tL, gL_tI, gL_tL, if_pos, if_neg, if_true, if_false, and_self] <;> exact q
  · intro i hi
    have q := h6 i hi
    simp (disch := omega) only [uf_ap, gI_tI, gI_tL, gL_tI, gL_tL, if_pos, if_neg, if_true, if_false, and_self] <;> exact q
  · intro j hj
    have q := h7 j hj
    simp (disch := omega) only [uf_ap, gI_tI, gI_tL, gL_tI, gL_tL, if_pos, if_neg, if_true, if_false, and_self] <;> exact q
  · intro i hi j hj hl
    have q := h8 i hi j hj hl
    simp (disch := omega) only [uf_ap, gI_tI, gI_tL, gL_tI, gL_tL, if_pos, if_neg, if_true, if_false, and_self] <;> exact q
  · intro k hk hl
    have q := h9 k hk hl
    simp (disch := omega) only [uf_ap, gI_tI, gI_tL, gL_tI, gL_tL, if_pos, if_neg, if_true, if_false, and_self] <;> exact q
  · intro k hk hl
    have q := h10 k hk hl
    simp (disch := omega) only [uf_ap, gI_tI, gI_tL, gL_tI, gL_tL, if_pos, if_neg, if_true, if_false, and_self] <;> exact q
  · have q := h11 
    simp (disch := omega) only [uf_ap, gI_tI, gI_tL, gL_tI, gL_tL, if_pos, if_neg, if_true, if_false, and_self] <;> exact q
  · have q := h12 
    simp (disch := omega) only [uf_ap, gI_tI, gI_tL, gL_tI, gL_tL, if_pos, if_neg, if_true, if_false, and_self] <;> exact q
  · have q := h13 
    simp (disch := omega) only [uf_ap, gI_tI, gI_tL, gL_tI, gL_tL, if_pos, if_neg, if_true, if_false, and_self] <;> exact q
  · have q := h14 
    simp (disch := omega) only [uf_ap, gI_tI, gI_tL, gL_tI, gL_tL, if_pos, if_neg, if_true, if_false, and_self] <;> exact q
  · have q := h15 
    simp (disch := omega) only [uf_ap, gI_tI, gI_tL, gL_tI, gL_tL, if_pos, if_neg, if_true, if_false, and_self] <;> exact q
  · have q := h16 
    simp (disch := omega) only [uf_ap, gI_tI, gI_tL, gL_tI, gL_tL, if_pos, if_neg, if_true, if_false, and_self] <;> exact q
  · have q := h17 
    simp (disch := omega) only [uf_ap, gI_tI, gI_tL, gL_tI, gL_tL, if_pos, if_neg, if_true, if_false, and_self] <;> exact q
  · have q := h18 
    simp (disch := omega) only [uf_ap, gI_tI, gI_tL, gL_tI, gL_tL, if_pos, if_neg, if_true, if_false, and_self] <;> exact q
  · intro i hi
    have q := h19 i hi
    simp (disch := omega) only [uf_ap, gI_tI, gI_tL, gL_tI, gL_tL, if_pos, if_neg, if_true, if_false, and_self] <;> exact q
  · intro i hi j hj hl
    have q := h20 i hi j hj hl
    simp (disch := omega) only [uf_ap, gI_tI, gI_tL, gL_tI, gL_tL, if_pos, if_neg, if_true, if_false, and_self] <;> exact q
theorem RR_f0 {ρ : Nat → Int32} {σ : St}  {v : Int32} (h : RR ρ σ) : RR (uf ρ 181 v) (tI σ 0 0 v) := by
  obtain ⟨h1, h2, h3, h4, h5, h6, h7, h8, h9, h10, h11, h12, h13, h14, h15, h16, h17, h18, h19, h20⟩ := h
  refine ⟨?_, ?_, ?_, ?_, ?_, ?_, ?_, ?_, ?_, ?_, ?_, ?_, ?_, ?_, ?_, ?_, ?_, ?_, ?_, ?_⟩
  · intro i hi
    have q := h1 i hi
    simp (disch := omega) only [uf_ap, gI_tI, gI_tL, gL_tI, gL_tL, if_pos, if_neg, if_true, if_false, and_self] <;> exact q
  · intro i hi
    have q := h2 i hi
    simp (disch := omega) only [uf_ap, gI_tI, gI_tL, gL_tI, gL_tL, if_pos, if_neg, if_true, if_false, and_self] <;> exact q
  · intro i hi
    have q := h3 i hi
    simp (disch := omega) only [uf_ap, gI_tI, gI_tL, gL_tI, gL_tL, if_pos, if_neg, if_true, if_false, and_self] <;> exact q
  · intro i hi
    have q := h4 i hi
    simp (disch := omega) only [uf_ap, gI_tI, gI_tL, gL_tI, gL_tL, if_pos, if_neg, if_true, if_false, and_self] <;> exact q
  · intro i hi k
    have q := h5 i hi k
    simp (disch := omega) only [uf_ap, gI_tI, gI_tL, gL_tI, gL_tL, if_pos, if_neg, if_true, if_false, and_self] <;> exact q
  · intro i hi
    have q := h6 i hi
    simp (disch := omega) only [uf_ap, gI_tI, gI_tL, gL_tI, gL_tL, if_pos, if_neg, if_true, if_false, and_self] <;> exact q
  · intro j hj
    have q := h7 j hj
    simp (disch := omega) only [uf_ap, gI_tI, gI_tL, gL_tI, gL_tL, if_pos, if_neg, if_true, if_false, and_self] <;> exact q
  · intro i hi j hj hl
    have q := h8 i hi j hj hl
    simp (disch := omega) only [uf_ap, gI_tI, gI_tL, gL_tI, gL_tL, if_pos, if_neg, if_true, if_false, and_self] <;> exact q
  · intro k hk hl
    have q := h9 k hk hl
    simp (disch := omega) only [uf_ap, gI_tI, gI_tL, gL_tI, gL_tL, if_pos, if_neg, if_true, if_false, and_self] <;> exact q
  · intro k hk hl
    have q := h10 k hk hl
    simp (disch := omega) only [uf_ap, gI_tI, gI_tL, gL_tI, gL_tL, if_pos, if_neg, if_true, if_false, and_self] <;> exact q
  · have q := h11 
    simp (disch := omega) only [uf_ap, gI_tI, gI_tL, gL_tI, gL_tL, if_pos, if_neg, if_true, if_false, and_self] <;> exact q
  · have q := h12 
    simp (disch := omega) only [uf_ap, gI_tI, gI_tL, gL_tI, gL_tL, if_pos, if_neg, if_true, if_false, and_self] <;> exact q
  · have q := h13 
    simp (disch := omega) only [uf_ap, gI_tI, gI_tL, gL_tI, gL_tL, if_pos, if_neg, if_true, if_false, and_self] <;> exact q
  · have q := h14 
    simp (disch := omega) only [uf_ap, gI_tI, gI_tL, gL_tI, gL_tL, if_pos, if_neg, if_true, if_false, and_self] <;> exact q
  · have q := h15 
    simp (disch := omega) only [uf_ap, gI_tI, gI_tL, gL_tI, gL_tL, if_pos, if_neg, if_true, if_false, and_self] <;> exact q
  · have q := h16 
    simp (disch := omega) only [uf_ap, gI_tI, gI_tL, gL_tI, gL_tL, if_pos, if_neg, if_true, if_false, and_self] <;> exact q
  · have q := h17 
    simp (disch := omega) only [uf_ap, gI_tI, gI_tL, gL_tI, gL_tL, if_pos, if_neg, if_true, if_false, and_self] <;> exact q
  · have q := h18 
    simp (disch := omega) only [uf_ap, gI_tI, gI_tL, gL_tI, gL_tL, if_pos, if_neg, if_true, if_false, and_self] <;> exact q
  · intro i hi
    have q := h19 i hi
    simp (disch := omega) only [uf_ap, gI_tI, gI_tL, gL_tI, gL_tL, if_pos, if_neg, if_true, if_false, and_self] <;> exact q
  · intro i hi j hj hl
    have q := h20 i hi j hj hl
    simp (disch := omega) only [uf_ap, gI_tI, gI_tL, gL_tI, gL_tL, if_pos, if_neg, if_true, if_false, and_self] <;> exact q
theorem RR_f1 {ρ : Nat → Int32} {σ : St}  {v : Int32} (h : RR ρ σ) : RR (uf ρ 182 v) (tI σ 0 1 v) := by
  obtain ⟨h1, h2, h3, h4, h5, h6, h7, h8, h9, h10, h11, h12, h13, h14, h15, h16, h17, h18, h19, h20⟩ := h
  refine ⟨?_, ?_, ?_, ?_, ?_, ?_, ?_, ?_, ?_, ?_, ?_, ?_, ?_, ?_, ?_, ?_, ?_, ?_, ?_, ?_⟩
  · intro i hi
    have q := h1 i hi
    simp (disch := omega) only [uf_ap, gI_tI, gI_tL, gL_tI, gL_tL, if_pos, if_neg, if_true, if_false, and_self] <;> exact q
  · intro i hi
    have q := h2 i hi
    simp (disch := omega) only [uf_ap, gI_tI, gI_tL, gL_tI, gL_tL, if_pos, if_neg, if_true, if_false, and_self] <;> exact q
  · intro i hi
    have q := h3 i hi
    simp (disch := omega) only [uf_ap, gI_tI, gI_tL, gL_tI, gL_tL, if_pos, if_neg, if_true, if_false, and_self] <;> exact q
  · intro i hi
    have q := h4 i hi
    simp (disch := omega) only [uf_ap, gI_tI, gI_tL, gL_tI, gL_tL, if_pos, if_neg, if_true, if_false, and_self] <;> exact q
  · intro i hi k
    have q := h5 i hi k
    simp (disch := omega) only [uf_ap, gI_tI, gI_tL, gL_tI, gL_tL, if_pos, if_neg, if_true, if_false, and_self] <;> exact q
  · intro i hi
    have q := h6 i hi
    simp (disch := omega) only [uf_ap, gI_tI, gI_tL, gL_tI, gL_tL, if_pos, if_neg, if_true, if_false, and_self] <;> exact q
  · intro j hj
    have q := h7 j hj
    simp (disch := omega) only [uf_ap, gI_tI, gI_tL, gL_tI, gL_tL, if_pos, if_neg, if_true, if_false, and_self] <;> exact q
  · intro i hi j hj hl
    have q := h8 i hi j hj hl
    simp (disch := omega) only [uf_ap, gI_tI, gI_tL, gL_tI, gL_tL, if_pos, if_neg, if_true, if_false, and_self] <;> exact q
  · intro k hk hl
    have q := h9 k hk hl
    simp (disch := omega) only [uf_ap, gI_tI, gI_tL, gL_tI, gL_tL, if_pos, if_neg, if_true, if_false, and_self] <;> exact q
  · intro k hk hl
    have q := h10 k hk hl
    simp (disch := omega) only [uf_ap, gI_tI, gI_tL, gL_tI, gL_tL, if_pos, if_neg, if_true, if_false, and_self] <;> exact q
  · have q := h11 
    simp (disch := omega) only [uf_ap, gI_tI, gI_tL, gL_tI, gL_tL, if_pos, if_neg, if_true, if_false, and_self] <;> exact q
  · have q := h12 
    simp (disch := omega) only [uf_ap, gI_tI, gI_tL, gL_tI, gL_tL, if_pos, if_neg, if_true, if_false, and_self] <;> exact q
  · have q := h13 
    simp (disch := omega) only [uf_ap, gI_tI, gI_tL, gL_tI, gL_tL, if_pos, if_neg, if_true, if_false, and_self] <;> exact q
  · have q := h14 
    simp (disch := omega) only [uf_ap, gI_tI, gI_tL, gL_tI, gL_tL, if_pos, if_neg, if_true, if_false, and_self] <;> exact q
  · have q := h15 
    simp (disch := omega) only [uf_ap, gI_tI, gI_tL, gL_tI, gL_tL, if_pos, if_neg, if_true, if_false, and_self] <;> exact q
  · have q := h16 
    simp (disch := omega) only [uf_ap, gI_tI, gI_tL, gL_tI, gL_tL, if_pos, if_neg, if_true, if_false, and_self] <;> exact q
  · have q := h17 
    simp (disch := omega) only [uf_ap, gI_tI, gI_tL, gL_tI, gL_tL, if_pos, if_neg, if_true, if_false, and_self] <;> exact q
  · have q := h18 
    simp (disch := omega) only [uf_ap, gI_tI, gI_tL, gL_tI, gL_tL, if_pos, if_neg, if_true, if_false, and_self] <;> exact q
  · intro i hi
    have q := h19 i hi
    simp (disch := omega) only [uf_ap, gI_tI, gI_tL, gL_tI, gL_tL, if_pos, if_neg, if_true, if_false, and_self] <;> exact q
  · intro i hi j hj hl
    have q := h20 i hi j hj hl
    simp (disch := omega) only [uf_ap, gI_tI, gI_tL, gL_tI, gL_tL, if_pos, if_neg, if_true, if_false, and_self] <;> exact q
theorem RR_f2 {ρ : Nat → Int32} {σ : St}  {v : Int32} (h : RR ρ σ) : RR (uf ρ 183 v) (tI σ 0 2 v) := by
  obtain ⟨h1, h2, h3, h4, h5, h6, h7, h8, h9, h10, h11, h12, h13, h14, h15, h16, h17, h18, h19, h20⟩ := h
  refine ⟨?_, ?_, ?_, ?_, ?_, ?_, ?_, ?_, ?_, ?_, ?_, ?_, ?_, ?_, ?_, ?_, ?_, ?_, ?_, ?_⟩
  · intro i hi
    have q := h1 i hi
    simp (disch := omega) only [uf_ap, gI_tI, gI_tL, gL_tI, gL_tL, if_pos, if_neg, if_true, if_false, and_self] <;> exact q
  · intro i hi
    have q := h2 i hi
    simp (disch := omega) only [uf_ap, gI_tI, gI_tL, gL_tI, gL_tL, if_pos, if_neg, if_true, if_false, and_self] <;> exact q
  · intro i hi
    have q := h3 i hi
    simp (disch := omega) only [uf_ap, gI_tI, gI_tL, gL_tI, gL_tL, if_pos, if_neg, if_true, if_false, and_self] <;> exact q
  · intro i hi
    have q := h4 i hi
    simp (disch := omega) only [uf_ap, gI_tI, gI_tL, gL_tI, gL_tL, if_pos, if_neg, if_true, if_false, and_self] <;> exact q
  · intro i hi k
    have q := h5 i hi k
    simp (disch := omega) only [uf_ap, gI_tI, gI_tL, gL_tI, gL_tL, if_pos, if_neg, if_true, if_false, and_self] <;> exact q
  · intro i hi
    have q := h6 i hi
    simp (disch := omega) only [uf_ap, gI_tI, gI_tL, gL_tI, gL_tL, if_pos, if_neg, if_true, if_false, and_self] <;> exact q
  · intro j hj
    have q := h7 j hj
    simp (disch := omega) only [uf_ap, gI_tI, gI_tL, gL_tI, gL_tL, if_pos, if_neg, if_true, if_false, and_self] <;> exact q
  · intro i hi j hj hl
    have q := h8 i hi j hj hl
    simp (disch := omega) only [uf_ap, gI_tI, gI_tL, gL_tI, gL_tL, if_pos, if_neg, if_true, if_false, and_self] <;> exact q
  · intro k hk hl
    have q := h9 k hk hl
    simp (disch := omega) only [uf_ap, gI_tI, gI_tL, gL_tI, gL_tL, if_pos, if_neg, if_true, if_false, and_self] <;> exact q
  · intro k hk hl
    have q := h10 k hk hl
    simp (disch := omega) only [uf_ap, gI_tI, gI_tL, gL_tI, gL_tL, if_pos, if_neg, if_true, if_false, and_self] <;> exact q
  · have q := h11 
    simp (disch := omega) only [uf_ap, gI_tI, gI_tL, gL_tI, gL_tL, if_pos, if_neg, if_true, if_false, and_self] <;> exact q
  · have q := h12 
    simp (disch := omega) only [uf_ap, gI_tI, gI_tL, gL_tI, gL_tL, if_pos, if_neg, if_true, if_false, and_self] <;> exact q
  · have q := h13 
    simp (disch := omega) only [uf_ap, gI_tI, gI_tL, gL_tI, gL_tL, if_pos, if_neg, if_true, if_false, and_self] <;> exact q
  · have q := h14 
    simp (disch := omega) only [uf_ap, gI_tI, gI_tL, gL_tI, gL_tL, if_pos, if_neg, if_true, if_false, and_self] <;> exact q
  · have q := h15 
    simp (disch := omega) only [uf_ap, gI_tI, gI_tL, gL_tI, gL_tL, if_pos, if_neg, if_true, if_false, and_self] <;> exact q
  · have q := h16 
    simp (disch := omega) only [uf_ap, gI_tI, gI_tL, gL_tI, gL_tL, if_pos, if_neg, if_true, if_false, and_self] <;> exact q
  · have q := h17 
    simp (disch := omega) only [uf_ap, gI_tI, gI_tL, gL_tI, gL_tL, if_pos, if_neg, if_true, if_false, and_self] <;> exact q
  · have q := h18 
    simp (disch := omega) only [uf_ap, gI_tI, gI_tL, gL_tI, gL_tL, if_pos, if_neg, if_true, if_false, and_self] <;> exact q
  · intro i hi
    have q := h19 i hi
    simp (disch := omega) only [uf_ap, gI_tI, gI_tL, gL_tI, gL_tL, if_pos, if_neg, if_true, if_false, and_self] <;> exact q
  · intro i hi j hj hl
    have q := h20 i hi j hj hl
    simp (disch := omega) only [uf_ap, gI_tI, gI_tL, gL_tI, gL_tL, if_pos, if_neg, if_true, if_false, and_self] <;> exact q
theorem RR_f3 {ρ : Nat → Int32} {σ : St}  {v : Int32} (h : RR ρ σ) : RR (uf ρ 184 v) (tI σ 0 3 v) := by
  obtain ⟨h1, h2, h3, h4, h5, h6, h7, h8, h9, h10, h11, h12, h13, h14, h15, h16, h17, h18, h19, h20⟩ := h
  refine ⟨?_, ?_, ?_, ?_, ?_, ?_, ?_, ?_, ?_, ?_, ?_, ?_, ?_, ?_, ?_, ?_, ?_, ?_, ?_, ?_⟩
  · intro i hi
    have q := h1 i hi
    simp (disch := omega) only [uf_ap, gI_tI, gI_tL, gL_tI, gL_tL, if_pos, if_neg, if_true, if_false, and_self] <;> exact q
  · intro i hi
    have q := h2 i hi
    simp (disch := omega) only [uf_ap, gI_tI, gI_tL, gL_tI, gL_tL, if_pos, if_neg, if_true, if_false, and_self] <;> exact q
  · intro i hi
    have q := h3 i hi
    simp (disch := omega) only [uf_ap, gI_tI, gI_tL, gL_tI, gL_tL, if_pos, if_neg, if_true, if_false, and_self] <;> exact q
  · intro i hi
    have q := h4 i hi
    simp (disch := omega) only [uf_ap, gI_tI, gI_tL, gL_tI, gL_tL, if_pos, if_neg, if_true, if_false, and_self] <;> exact q
  · intro i hi k
    have q := h5 i hi k
    simp (disch := omega) only [uf_ap, gI_tI, gI_tL, gL_tI, gL_tL, if_pos, if_neg, if_true, if_false, and_self] <;> exact q
  · intro i hi
    have q := h6 i hi
    simp (disch := omega) only [uf_ap, gI_tI, gI_tL, gL_tI, gL_tL, if_pos, if_neg, if_true, if_false, and_self] <;> exact q
  · intro j hj
    have q := h7 j hj
    simp (disch := omega) only [uf_ap, gI_tI, gI_tL, gL_tI, gL_tL, if_pos, if_neg, if_true, if_false, and_self] <;> exact q
  · intro i hi j hj hl
    have q := h8 i hi j hj hl
    simp (disch := omega) only [uf_ap, gI_tI, gI_tL, gL_tI, gL_tL, if_pos, if_neg, if_true, if_false, and_self] <;> exact q
  · intro k hk hl
    have q := h9 k hk hl
    simp (disch := omega) only [uf_ap, gI_tI, gI_tL, gL_tI, gL_tL, if_pos, if_neg, if_true, if_false, and_self] <;> exact q
  · intro k hk hl
    have q := h10 k hk hl
    simp (disch := omega) only [uf_ap, gI_tI, gI_tL, gL_tI, gL_tL, if_pos, if_neg, if_true, if_false, and_self] <;> exact q
  · have q := h11 
    simp (disch := omega) only [uf_ap, gI_tI, gI_tL, gL_tI, gL_tL, if_pos, if_neg, if_true, if_false, and_self] <;> exact q
  · have q := h12 
    simp (disch := omega) only [uf_ap, gI_tI, gI_tL, gL_tI, gL_tL, if_pos, if_neg, if_true, if_false, and_self] <;> exact q
  · have q := h13 
    simp (disch := omega) only [uf_ap, gI_tI, gI_tL, gL_tI, gL_tL, if_pos, if_neg, if_true, if_false, and_self] <;> exact q
  · have q := h14 
    simp (disch := omega) only [uf_ap, gI_tI, gI_tL, gL_tI, gL_tL, if_pos, if_neg, if_true, if_false, and_self] <;> exact q
  · have q := h15 
    simp (disch := omega) only [uf_ap, gI_tI, gI_tL, gL_tI, gL_tL, if_pos, if_neg, if_true, if_false, and_self] <;> exact q
  · have q := h16 
    simp (disch := omega) only [uf_ap, gI_tI, gI_tL, gL_tI, gL_tL, if_pos, if_neg, if_true, if_false, and_self] <;> exact q
  · have q := h17 
    simp (disch := omega) only [uf_ap, gI_tI, gI_tL, gL_tI, gL_tL, if_pos, if_neg, if_true, if_false, and_self] <;> exact q
  · have q := h18 
    simp (disch := omega) only [uf_ap, gI_tI, gI_tL, gL_tI, gL_tL, if_pos, if_neg, if_true, if_false, and_self] <;> exact q
  · intro i hi
    have q := h19 i hi
    simp (disch := omega) only [uf_ap, gI_tI, gI_tL, gL_tI, gL_tL, if_pos, if_neg, if_true, if_false, and_self] <;> exact q
  · intro i hi j hj hl
    have q := h20 i hi j hj hl
    simp (disch := omega) only [uf_ap, gI_tI, gI_tL, gL_tI, gL_tL, if_pos, if_neg, if_true, if_false, and_self] <;> exact q
theorem RR_f4 {ρ : Nat → Int32} {σ : St}  {v : Int32} (h : RR ρ σ) : RR (uf ρ 185 v) (tI σ 0 4 v) := by
  obtain ⟨h1, h2, h3, h4, h5, h6, h7, h8, h9, h10, h11, h12, h13, h14, h15, h16, h17, h18, h19, h20⟩ := h
  refine ⟨?_, ?_, ?_, ?_, ?_, ?_, ?_, ?_, ?_, ?_, ?_, ?_, ?_, ?_, ?_, ?_, ?_, ?_, ?_, ?_⟩
  · intro i hi
    have q := h1 i hi
    simp (disch := omega) only [uf_ap, gI_tI, gI_tL, gL_tI, gL_tL, if_pos, if_neg, if_true, if_false, and_self] <;> exact q
  · intro i hi
    have q := h2 i hi
    simp (disch := omega) only [uf_ap, gI_tI, gI_tL, gL_tI, gL_tL, if_pos, if_neg, if_true, if_false, and_self] <;> exact q
  · intro i hi
    have q := h3 i hi
    simp (disch := omega) only [uf_ap, gI_tI, gI_tL, gL_tI, gL_tL, if_pos, if_neg, if_true, if_false, and_self] <;> exact q
  · intro i hi
    have q := h4 i hi
    simp (disch := omega) only [uf_ap, gI_tI, gI_tL, gL_tI, gL_tL, if_pos, if_neg, if_true, if_false, and_self] <;> exact q
  · intro i hi k
    have q := h5 i hi k
    simp (disch := omega) only [uf_ap, gI_tI, gI_tL, gL_tI, gL_tL, if_pos, if_neg, if_true, if_false, and_self] <;> exact q
  · intro i hi
    have q := h6 i hi
    simp (disch := omega) only [uf_ap, gI_tI, gI_tL, gL_tI, gL_tL, if_pos, if_neg, if_true, if_false, and_self] <;> exact q
  · intro j hj
    have q := h7 j hj
    simp (disch := omega) only [uf_ap, gI_tI, gI_tL, gL_tI, gL_tL, if_pos, if_neg, if_true, if_false, and_self] <;> exact q
  · intro i hi j hj hl
    have q := h8 i hi j hj hl
    simp (disch := omega) only [uf_ap, gI_tI, gI_tL, gL_tI, gL_tL, if_pos, if_neg, if_true, if_false, and_self] <;> exact q
  · intro k hk hl
    have q := h9 k hk hl
    simp (disch := omega) only [uf_ap, gI_tI, gI_tL, gL_tI, gL_tL, if_pos, if_neg, if_true, if_false, and_self] <;> exact q
  · intro k hk hl
    have q := h10 k hk hl
    simp (disch := omega) only [uf_ap, gI_tI, gI_tL, gL_tI, gL_tL, if_pos, if_neg, if_true, if_false, and_self] <;> exact q
  · have q := h11 
    simp (disch := omega) only [uf_ap, gI_tI, gI_tL, gL_tI, gL_tL, if_pos, if_neg, if_true, if_false, and_self] <;> exact q
  · have q := h12 
    simp (disch := omega) only [uf_ap, gI_tI, gI_tL, gL_tI, gL_tL, if_pos, if_neg, if_true, if_false, and_self] <;> exact q
  · have q := h13 
    simp (disch := omega) only [uf_ap, gI_tI, gI_tL, gL_tI, gL_tL, if_pos, if_neg, if_true, if_false, and_self] <;> exact q
  · have q := h14 
    simp (disch := omega) only [uf_ap, gI_tI, gI_tL, gL_tI, gL_tL, if_pos, if_neg, if_true, if_false, and_self] <;> exact q
  · have q := h15 
    simp (disch := omega) only [uf_ap, gI_tI, gI_tL, gL_tI, gL_tL, if_pos, if_neg, if_true, if_false, and_self] <;> exact q
  · have q := h16 
    simp (disch := omega) only [uf_ap, gI_tI, gI_tL, gL_tI, gL_tL, if_pos, if_neg, if_true, if_false, and_self] <;> exact q
  · have q := h17 
    simp (disch := omega) only [uf_ap, gI_tI, gI_tL, gL_tI, gL_tL, if_pos, if_neg, if_true, if_false, and_self] <;> exact q
  · have q := h18 
    simp (disch := omega) only [uf_ap, gI_tI, gI_tL, gL_tI, gL_tL, if_pos, if_neg, if_true, if_false, and_self] <;> exact q
  · intro i hi
    have q := h19 i hi
    simp (disch := omega) only [uf_ap, gI_tI, gI_tL, gL_tI, gL_tL, if_pos, if_neg, if_true, if_false, and_self] <;> exact q
  · intro i hi j hj hl
    have q := h20 i hi j hj hl
    simp (disch := omega) only [uf_ap, gI_tI, gI_tL, gL_tI, gL_tL, if_pos, if_neg, if_true, if_false, and_self] <;> exact q
theorem RR_f5 {ρ : Nat → Int32} {σ : St}  {v : Int32} (h : RR ρ σ) : RR (uf ρ 186 v) (tI σ 0 5 v) := by
  obtain ⟨h1, h2, h3, h4, h5, h6, h7, h8, h9, h10, h11, h12, h13, h14, h15, h16, h17, h18, h19, h20⟩ := h
  refine ⟨?_, ?_, ?_, ?_, ?_, ?_, ?_, ?_, ?_, ?_, ?_, ?_, ?_, ?_, ?_, ?_, ?_, ?_, ?_, ?_⟩
  · intro i hi
    have q := h1 i hi
    simp (disch := omega) only [uf_ap, gI_tI, gI_tL, gL_tI, gL_tL, if_pos, if_neg, if_true, if_false, and_self] <;> exact q
  · intro i hi
    have q := h2 i hi
    simp (disch := omega) only [uf_ap, gI_tI, gI_tL, gL_tI, gL_tL, if_pos, if_neg, if_true, if_false, and_self] <;> exact q
  · intro i hi
    have q := h3 i hi
    simp (disch := omega) only [uf_ap, gI_tI, gI_tL, gL_tI, gL_tL, if_pos, if_neg, if_true, if_false, and_self] <;> exact q
  · intro i hi
    have q := h4 i hi
    simp (disch := omega) only [uf_ap, gI_tI, gI_tL, gL_tI, gL_tL, if_pos, if_neg, if_true, if_false, and_self] <;> exact q
  · intro i hi k
    have q := h5 i hi k
    simp (disch := omega) only [uf_ap, gI_tI, gI_tL, gL_tI, gL_tL, if_pos, if_neg, if_true, if_false, and_self] <;> exact q
  · intro i hi
    have q := h6 i hi
    simp (disch := omega) only [uf_ap, gI_tI, gI_tL, gL_tI, gL_tL, if_pos, if_neg, if_true, if_false, and_self] <;> exact q
  · intro j hj
    have q := h7 j hj
    simp (disch := omega) only [uf_ap, gI_tI, gI_tL, gL_tI, gL_tL, if_pos, if_neg, if_true, if_false, and_self] <;> exact q
  · intro i hi j hj hl
    have q := h8 i hi j hj hl
    simp (disch := omega) only [uf_ap, gI_tI, gI_tL, gL_tI, gL_tL, if_pos, if_neg, if_true, if_false, and_self] <;> exact q
  · intro k hk hl
    have q := h9 k hk hl
    simp (disch := omega) only [uf_ap, gI_tI, gI_tL, gL_tI, gL_tL, if_pos, if_neg, if_true, if_false, and_self] <;> exact q
  · intro k hk hl
    have q := h10 k hk hl
    simp (disch := omega) only [uf_ap, gI_tI, gI_tL, gL_tI, gL_tL, if_pos, if_neg, if_true, if_false, and_self] <;> exact q
  · have q := h11 
    simp (disch := omega) only [uf_ap, gI_tI, gI_tL, gL_tI, gL_tL, if_pos, if_neg, if_true, if_false, and_self] <;> exact q
  · have q := h12 
    simp (disch := omega) only [uf_ap, gI_tI, gI_tL, gL_tI, gL_tL, if_pos, if_neg, if_true, if_false, and_self] <;> exact q
  · have q := h13 
    simp (disch := omega) only [uf_ap, gI_tI, gI_tL, gL_tI, gL_tL, if_pos, if_neg, if_true, if_false, and_self] <;> exact q
  · have q := h14 
    simp (disch := omega) only [uf_ap, gI_tI, gI_tL, gL_tI, gL_tL, if_pos, if_neg, if_true, if_false, and_self] <;> exact q
  · have q := h15 
    simp (disch := omega) only [uf_ap, gI_tI, gI_tL, gL_tI, gL_tL, if_pos, if_neg, if_true, if_false, and_self] <;> exact q
  · have q := h16 
    simp (disch := omega) only [uf_ap, gI_tI, gI_tL, gL_tI, gL_tL, if_pos, if_neg, if_true, if_false, and_self] <;> exact q
  · have q := h17 
    simp (disch := omega) only [uf_ap, gI_tI, gI_tL, gL_tI, gL_tL, if_pos, if_neg, if_true, if_false, and_self] <;> exact q
  · have q := h18 
    simp (disch := omega) only [uf_ap, gI_tI, gI_tL, gL_tI, gL_tL, if_pos, if_neg, if_true, if_false, and_self] <;> exact q
  · intro i hi
    have q := h19 i hi
    simp (disch := omega) only [uf_ap, gI_tI, gI_tL, gL_tI, gL_tL, if_pos, if_neg, if_true, if_false, and_self] <;> exact q
  · intro i hi j hj hl
    have q := h20 i hi j hj hl
    simp (disch := omega) only [uf_ap, gI_tI, gI_tL, gL_tI, gL_tL, if_pos, if_neg, if_true, if_false, and_self] <;> exact q
theorem RR_sum {ρ : Nat → Int32} {σ : St}  {a : Nat} {v : Int64} (h : RR ρ σ) (ha : a < 6) : RR (uf (uf ρ (188 + 2 * a) (hi9 v)) (188 + 2 * a + 1) (lo9 v)) (tL σ 11 a v) := by
  obtain ⟨h1, h2, h3, h4, h5, h6, h7, h8, h9, h10, h11, h12, h13, h14, h15, h16, h17, h18, h19, h20⟩ := h
  refine ⟨?_, ?_, ?_, ?_, ?_, ?_, ?_, ?_, ?_, ?_, ?_, ?_, ?_, ?_, ?_, ?_, ?_, ?_, ?_, ?_⟩
  · intro i hi
    have q := h1 i hi
    simp (disch := omega) only [uf_ap, gI_tI, gI_tL, gL_tI, gL_tL, if_pos, if_neg, if_true, if_false, and_self] <;> exact q
  · intro i hi
    have q := h2 i hi
    simp (disch := omega) only [uf_ap, gI_tI, gI_tL, gL_tI, gL_tL, if_pos, if_neg, if_true, if_false, and_self] <;> exact q
  · intro i hi
    have q := h3 i hi
    simp (disch := omega) only [uf_ap, gI_tI, gI_tL, gL_tI, gL_tL, if_pos, if_neg, if_true, if_false, and_self] <;> exact q
  · intro i hi
    have q := h4 i hi
    simp (disch := omega) only [uf_ap, gI_tI, gI_tL, gL_tI, gL_tL, if_pos, if_neg, if_true, if_false, and_self] <;> exact q
  · intro i hi k
    have q := h5 i hi k
    simp (disch := omega) only [uf_ap, gI_tI, gI_tL, gL_tI, gL_tL, if_pos, if_neg, if_true, if_false, and_self] <;> exact q
  · intro i hi
    have q := h6 i hi
    simp (disch := omega) only [uf_ap, gI_tI, gI_tL, gL_tI, gL_tL, if_pos, if_neg, if_true, if_false, and_self] <;> exact q
  · intro j hj
    have q := h7 j hj
    simp (disch := omega) only [uf_ap, gI_tI, gI_tL, gL_tI, gL_tL, if_pos, if_neg, if_true, if_false, and_self] <;> exact q
  · intro i hi j hj hl
    have q := h8 i hi j hj hl
    simp (disch := omega) only [uf_ap, gI_tI, gI_tL, gL_tI, gL_tL, if_pos, if_neg, if_true, if_false, and_self] <;> exact q
  · intro k hk hl
    have q := h9 k hk hl
    simp (disch := omega) only [uf_ap, gI_tI, gI_tL, gL_tI, gL_tL, if_pos, if_neg, if_true, if_false, and_self] <;> exact q
  · intro k hk hl
    have q := h10 k hk hl
    simp (disch := omega) only [uf_ap, gI_tI, gI_tL, gL_tI, gL_tL, if_pos, if_neg, if_true, if_false, and_self] <;> exact q
  · have q := h11 
    simp (disch := omega) only [uf_ap, gI_tI, gI_tL, gL_tI, gL_tL, if_pos, if_neg, if_true, if_false, and_self] <;> exact q
  · have q := h12 
    simp (disch := omega) only [uf_ap, gI_tI, gI_tL, gL_tI, gL_tL, if_pos, if_neg, if_true, if_false, and_self] <;> exact q
  · have q := h13 
    simp (disch := omega) only [uf_ap, gI_tI, gI_tL, gL_tI, gL_tL, if_pos, if_neg, if_true, if_false, and_self] <;> exact q
  · have q := h14 
    simp (disch := omega) only [uf_ap, gI_tI, gI_tL, gL_tI, gL_tL, if_pos, if_neg, if_true, if_false, and_self] <;> exact q
  · have q := h15 
    simp (disch := omega) only [uf_ap, gI_tI, gI_tL, gL_tI, gL_tL, if_pos, if_neg, if_true, if_false, and_self] <;> exact q
  · have q := h16 
    simp (disch := omega) only [uf_ap, gI_tI, gI_tL, gL_tI, gL_tL, if_pos, if_neg, if_true, if_false, and_self] <;> exact q
  · have q := h17 
    simp (disch := omega) only [uf_ap, gI_tI, gI_tL, gL_tI, gL_tL, if_pos, if_neg, if_true, if_false, and_self] <;> exact q
  · have q := h18 
    simp (disch := omega) only [uf_ap, gI_tI, gI_tL, gL_tI, gL_tL, if_pos, if_neg, if_true, if_false, and_self] <;> exact q
  · intro i hi
    have q := h19 i hi
    by_cases e : i = a
    · simp (disch := omega) only [uf_ap, gI_tI, gI_tL, gL_tI, gL_tL, if_pos, if_neg, if_true, if_false, e, and_self] <;> exact q
    · simp (disch := omega) only [uf_ap, gI_tI, gI_tL, gL_tI, gL_tL, if_pos, if_neg, if_true, if_false, e, and_self] <;> exact q
  · intro i hi j hj hl
    have q := h20 i hi j hj hl
    simp (disch := omega) only [uf_ap, gI_tI, gI_tL, gL_tI, gL_tL, if_pos, if_neg, if_true, if_false, and_self] <;> exact q
theorem RR_held0 {ρ : Nat → Int32} {σ : St}  {a : Nat} (h : RR ρ σ) (ha : a < 6) : RR (uf ρ (30 + a) 0) (tI σ 5 a 0) := by
  obtain ⟨h1, h2, h3, h4, h5, h6, h7, h8, h9, h10, h11, h12, h13, h14, h15, h16, h17, h18, h19, h20⟩ := h
  refine ⟨?_, ?_, ?_, ?_, ?_, ?_, ?_, ?_, ?_, ?_, ?_, ?_, ?_, ?_, ?_, ?_, ?_, ?_, ?_, ?_⟩
  · intro i hi
    have q := h1 i hi
    simp (disch := omega) only [uf_ap, gI_tI, gI_tL, gL_tI, gL_tL, if_pos, if_neg, if_true, if_false, and_self] <;> exact q
  · intro i hi
    have q := h2 i hi
    simp (disch := omega) only [uf_ap, gI_tI, gI_tL, gL_tI, gL_tL, if_pos, if_neg, if_true, if_false, and_self] <;> exact q
  · intro i hi
    have q := h3 i hi
    simp (disch := omega) only [uf_ap, gI_tI, gI_tL, gL_tI, gL_tL, if_pos, if_neg, if_true, if_false, and_self] <;> exact q
  · intro i hi
    have q := h4 i hi
    simp (disch := omega) only [uf_ap, gI_tI, gI_tL, gL_tI, gL_tL, if_pos, if_neg, if_true, if_false, and_self] <;> exact q
  · intro i hi k
    have q := h5 i hi k
    simp (disch := omega) only [uf_ap, gI_tI, gI_tL, gL_tI, gL_tL, if_pos, if_neg, if_true, if_false, and_self] <;> exact q
  · intro i hi
    have q := h6 i hi
    by_cases e : i = a
    · simp (disch := omega) only [uf_ap, gI_tI, gI_tL, gL_tI, gL_tL, if_pos, if_neg, if_true, if_false, e, and_self] <;> exact q
    · simp (disch := omega) only [uf_ap, gI_tI, gI_tL, gL_tI, gL_tL, if_pos, if_neg, if_true, if_false, e, and_self] <;> exact q
  · intro j hj
    have q := h7 j hj
    simp (disch := omega) only [uf_ap, gI_tI, gI_tL, gL_tI, gL_tL, if_pos, if_neg, if_true, if_false, and_self] <;> exact q
  · intro i hi j hj hl
    by_cases e : i = a
    · subst e
      exfalso
      rw [gI_tI, if_pos ⟨rfl, rfl⟩, show ix (0 : Int32) = 0 from by decide] at hl
      omega
    · have q := h8 i hi j hj (by rw [gI_tI, if_neg (by omega)] at hl; exact hl)
      simp (disch := omega) only [uf_ap, gI_tI, if_pos, if_neg, if_true, if_false, and_self]
      exact q
  · intro k hk hl
    have q := h9 k hk hl
    simp (disch := omega) only [uf_ap, gI_tI, gI_tL, gL_tI, gL_tL, if_pos, if_neg, if_true, if_false, and_self] <;> exact q
  · intro k hk hl
    have q := h10 k hk hl
    simp (disch := omega) only [uf_ap, gI_tI, gI_tL, gL_tI, gL_tL, if_pos, if_neg, if_true, if_false, and_self] <;> exact q
  · have q := h11 
    simp (disch := omega) only [uf_ap, gI_tI, gI_tL, gL_tI, gL_tL, if_pos, if_neg, if_true, if_false, and_self] <;> exact q
  · have q := h12 
    simp (disch := omega) only [uf_ap, gI_tI, gI_tL, gL_tI, gL_tL, if_pos, if_neg, if_true, if_false, and_self] <;> exact q
  · have q := h13 
    simp (disch := omega) only [uf_ap, gI_tI, gI_tL, gL_tI, gL_tL, if_pos, if_neg, if_true, if_false, and_self] <;> exact q
  · have q := h14 
    simp (disch := omega) only [uf_ap, gI_tI, gI_tL, gL_tI, gL_tL, if_pos, if_neg, if_true, if_false, and_self] <;> exact q
  · have q := h15 
    simp (disch := omega) only [uf_ap, gI_tI, gI_tL, gL_tI, gL_tL, if_pos, if_neg, if_true, if_false, and_self] <;> exact q
  · have q := h16 
    simp (disch := omega) only [uf_ap, gI_tI, gI_tL, gL_tI, gL_tL, if_pos, if_neg, if_true, if_false, and_self] <;> exact q
  · have q := h17 
    simp (disch := omega) only [uf_ap, gI_tI, gI_tL, gL_tI, gL_tL, if_pos, if_neg, if_true, if_false, and_self] <;> exact q
  · have q := h18 
    simp (disch := omega) only [uf_ap, gI_tI, gI_tL, gL_tI, gL_tL, if_pos, if_neg, if_true, if_false, and_self] <;> exact q
  · intro i hi
    have q := h19 i hi
    simp (disch := omega) only [uf_ap, gI_tI, gI_tL, gL_tI, gL_tL, if_pos, if_neg, if_true, if_false, and_self] <;> exact q
  · intro i hi j hj hl
    have q := h20 i hi j hj hl
    simp (disch := omega) only [uf_ap, gI_tI, gI_tL, gL_tI, gL_tL, if_pos, if_neg, if_true, if_false, and_self] <;> exact q
theorem RR_hold {ρ : Nat → Int32} {σ : St}  {a e : Nat} {w : Int32} (h : RR ρ σ) (ha : a < 6) (he : e < 8) (hx : gI σ 5 a = ni e) : RR (uf (uf ρ (72 + 8 * a + e) w) (30 + a) (ni (e + 1))) (tI (tI σ 6 (a * 8 + e) w) 5 a (ni (e + 1))) := by
  obtain ⟨h1, h2, h3, h4, h5, h6, h7, h8, h9, h10, h11, h12, h13, h14, h15, h16, h17, h18, h19, h20⟩ := h
  refine ⟨?_, ?_, ?_, ?_, ?_, ?_, ?_, ?_, ?_, ?_, ?_, ?_, ?_, ?_, ?_, ?_, ?_, ?_, ?_, ?_⟩
  · intro i hi
    have q := h1 i hi
    simp (disch := omega) only [uf_ap, gI_tI, gI_tL, gL_tI, gL_tL, if_pos, if_neg, if_true, if_false, and_self] <;> exact q
  · intro i hi
    have q := h2 i hi
    simp (disch := omega) only [uf_ap, gI_tI, gI_tL, gL_tI, gL_tL, if_pos, if_neg, if_true, if_false, and_self] <;> exact q
  · intro i hi
    have q := h3 i hi
    simp (disch := omega) only [uf_ap, gI_tI, gI_tL, gL_tI, gL_tL, if_pos, if_neg, if_true, if_false, and_self] <;> exact q
  · intro i hi
    have q := h4 i hi
    simp (disch := omega) only [uf_ap, gI_tI, gI_tL, gL_tI, gL_tL, if_pos, if_neg, if_true, if_false, and_self] <;> exact q
  · intro i hi k
    have q := h5 i hi k
    simp (disch := omega) only [uf_ap, gI_tI, gI_tL, gL_tI, gL_tL, if_pos, if_neg, if_true, if_false, and_self] <;> exact q
  · intro i hi
    have q := h6 i hi
    by_cases e : i = a
    · simp (disch := omega) only [uf_ap, gI_tI, gI_tL, gL_tI, gL_tL, if_pos, if_neg, if_true, if_false, e, and_self] <;> exact q
    · simp (disch := omega) only [uf_ap, gI_tI, gI_tL, gL_tI, gL_tL, if_pos, if_neg, if_true, if_false, e, and_self] <;> exact q
  · intro j hj
    have q := h7 j hj
    simp (disch := omega) only [uf_ap, gI_tI, gI_tL, gL_tI, gL_tL, if_pos, if_neg, if_true, if_false, and_self] <;> exact q
  · intro i hi j hj hl
    by_cases e1 : i = a
    · subst e1
      rw [gI_tI, if_pos ⟨rfl, rfl⟩, ix_ni (by omega)] at hl
      by_cases e2 : j = e
      · subst e2
        simp (disch := omega) only [uf_ap, gI_tI, if_pos, if_neg, if_true, if_false, and_self]
      · have q := h8 i hi j hj (by rw [hx, ix_ni (by omega)]; omega)
        simp (disch := omega) only [uf_ap, gI_tI, if_pos, if_neg, if_true, if_false, and_self]
        exact q
    · have q := h8 i hi j hj (by rw [gI_tI, if_neg (by omega), gI_tI, if_neg (by omega)] at hl; exact hl)
      simp (disch := omega) only [uf_ap, gI_tI, if_pos, if_neg, if_true, if_false, and_self]
      exact q
  · intro k hk hl
    have q := h9 k hk hl
    simp (disch := omega) only [uf_ap, gI_tI, gI_tL, gL_tI, gL_tL, if_pos, if_neg, if_true, if_false, and_self] <;> exact q
  · intro k hk hl
    have q := h10 k hk hl
    simp (disch := omega) only [uf_ap, gI_tI, gI_tL, gL_tI, gL_tL, if_pos, if_neg, if_true, if_false, and_self] <;> exact q
  · have q := h11 
    simp (disch := omega) only [uf_ap, gI_tI, gI_tL, gL_tI, gL_tL, if_pos, if_neg, if_true, if_false, and_self] <;> exact q
  · have q := h12 
    simp (disch := omega) only [uf_ap, gI_tI, gI_tL, gL_tI, gL_tL, if_pos, if_neg, if_true, if_false, and_self] <;> exact q
  · have q := h13 
    simp (disch := omega) only [uf_ap, gI_tI, gI_tL, gL_tI, gL_tL, if_pos, if_neg, if_true, if_false, and_self] <;> exact q
  · have q := h14 
    simp (disch := omega) only [uf_ap, gI_tI, gI_tL, gL_tI, gL_tL, if_pos, if_neg, if_true, if_false, and_self] <;> exact q
  · have q := h15 
    simp (disch := omega) only [uf_ap, gI_tI, gI_tL, gL_tI, gL_tL, if_pos, if_neg, if_true, if_false, and_self] <;> exact q
  · have q := h16 
    simp (disch := omega) only [uf_ap, gI_tI, gI_tL, gL_tI, gL_tL, if_pos, if_neg, if_true, if_false, and_self] <;> exact q
  · have q := h17 
    simp (disch := omega) only [uf_ap, gI_tI, gI_tL, gL_tI, gL_tL, if_pos, if_neg, if_true, if_false, and_self] <;> exact q
  · have q := h18 
    simp (disch := omega) only [uf_ap, gI_tI, gI_tL, gL_tI, gL_tL, if_pos, if_neg, if_true, if_false, and_self] <;> exact q
  · intro i hi
    have q := h19 i hi
    simp (disch := omega) only [uf_ap, gI_tI, gI_tL, gL_tI, gL_tL, if_pos, if_neg, if_true, if_false, and_self] <;> exact q
  · intro i hi j hj hl
    have q := h20 i hi j hj hl
    simp (disch := omega) only [uf_ap, gI_tI, gI_tL, gL_tI, gL_tL, if_pos, if_neg, if_true, if_false, and_self] <;> exact q
theorem RR_msg {ρ : Nat → Int32} {σ : St}  {k : Nat} {x w : Int32} (h : RR ρ σ) (hk : k < 30) (hx : gI σ 0 7 = ni k) : RR (uf (uf (uf ρ 187 (ni (k + 1))) (120 + k) x) (150 + k) w) (tI (tI (tI σ 0 7 (ni (k + 1))) 8 k x) 9 k w) := by
  obtain ⟨h1, h2, h3, h4, h5, h6, h7, h8, h9, h10, h11, h12, h13, h14, h15, h16, h17, h18, h19, h20⟩ := h
  refine ⟨?_, ?_, ?_, ?_, ?_, ?_, ?_, ?_, ?_, ?_, ?_, ?_, ?_, ?_, ?_, ?_, ?_, ?_, ?_, ?_⟩
  · intro i hi
    have q := h1 i hi
    simp (disch := omega) only [uf_ap, gI_tI, gI_tL, gL_tI, gL_tL, if_pos, if_neg, if_true, if_false, and_self] <;> exact q
  · intro i hi
    have q := h2 i hi
    simp (disch := omega) only [uf_ap, gI_tI, gI_tL, gL_tI, gL_tL, if_pos, if_neg, if_true, if_false, and_self] <;> exact q
  · intro i hi
    have q := h3 i hi
    simp (disch := omega) only [uf_ap, gI_tI, gI_tL, gL_tI, gL_tL, if_pos, if_neg, if_true, if_false, and_self] <;> exact q
  · intro i hi
    have q := h4 i hi
    simp (disch := omega) only [uf_ap, gI_tI, gI_tL, gL_tI, gL_tL, if_pos, if_neg, if_true, if_false, and_self] <;> exact q
  · intro i hi k
    have q := h5 i hi k
    simp (disch := omega) only [uf_ap, gI_tI, gI_tL, gL_tI, gL_tL, if_pos, if_neg, if_true, if_false, and_self] <;> exact q
  · intro i hi
    have q := h6 i hi
    simp (disch := omega) only [uf_ap, gI_tI, gI_tL, gL_tI, gL_tL, if_pos, if_neg, if_true, if_false, and_self] <;> exact q
  · intro j hj
    have q := h7 j hj
    simp (disch := omega) only [uf_ap, gI_tI, gI_tL, gL_tI, gL_tL, if_pos, if_neg, if_true, if_false, and_self] <;> exact q
  · intro i hi j hj hl
    have q := h8 i hi j hj hl
    simp (disch := omega) only [uf_ap, gI_tI, gI_tL, gL_tI, gL_tL, if_pos, if_neg, if_true, if_false, and_self] <;> exact q
  · intro j hj hl
    by_cases e1 : j = k
    · subst e1
      simp (disch := omega) only [uf_ap, gI_tI, if_pos, if_neg, if_true, if_false, and_self]
    · have hl2 : j < k + 1 := by
        simp (disch := omega) only [gI_tI, if_pos, if_neg, if_true, if_false, and_self, ix_ni] at hl
        exact hl
      have q := h9 j hj (by rw [hx, ix_ni (by omega)]; omega)
      simp (disch := omega) only [uf_ap, gI_tI, if_pos, if_neg, if_true, if_false, and_self]
      exact q
  · intro j hj hl
    by_cases e1 : j = k
    · subst e1
      simp (disch := omega) only [uf_ap, gI_tI, if_pos, if_neg, if_true, if_false, and_self]
    · have hl2 : j < k + 1 := by
        simp (disch := omega) only [gI_tI, if_pos, if_neg, if_true, if_false, and_self, ix_ni] at hl
        exact hl
      have q := h10 j hj (by rw [hx, ix_ni (by omega)]; omega)
      simp (disch := omega) only [uf_ap, gI_tI, if_pos, if_neg, if_true, if_false, and_self]
      exact q
  · have q := h11 
    simp (disch := omega) only [uf_ap, gI_tI, gI_tL, gL_tI, gL_tL, if_pos, if_neg, if_true, if_false, and_self] <;> exact q
  · have q := h12 
    simp (disch := omega) only [uf_ap, gI_tI, gI_tL, gL_tI, gL_tL, if_pos, if_neg, if_true, if_false, and_self] <;> exact q
  · have q := h13 
    simp (disch := omega) only [uf_ap, gI_tI, gI_tL, gL_tI, gL_tL, if_pos, if_neg, if_true, if_false, and_self] <;> exact q
  · have q := h14 
    simp (disch := omega) only [uf_ap, gI_tI, gI_tL, gL_tI, gL_tL, if_pos, if_neg, if_true, if_false, and_self] <;> exact q
  · have q := h15 
    simp (disch := omega) only [uf_ap, gI_tI, gI_tL, gL_tI, gL_tL, if_pos, if_neg, if_true, if_false, and_self] <;> exact q
  · have q := h16 
    simp (disch := omega) only [uf_ap, gI_tI, gI_tL, gL_tI, gL_tL, if_pos, if_neg, if_true, if_false, and_self] <;> exact q
  · have q := h17 
    simp (disch := omega) only [uf_ap, gI_tI, gI_tL, gL_tI, gL_tL, if_pos, if_neg, if_true, if_false, and_self] <;> exact q
  · have q := h18 
    simp (disch := omega) only [uf_ap, gI_tI, gI_tL, gL_tI, gL_tL, if_pos, if_neg, if_true, if_false, and_self] <;> exact q
  · intro i hi
    have q := h19 i hi
    simp (disch := omega) only [uf_ap, gI_tI, gI_tL, gL_tI, gL_tL, if_pos, if_neg, if_true, if_false, and_self] <;> exact q
  · intro i hi j hj hl
    have q := h20 i hi j hj hl
    simp (disch := omega) only [uf_ap, gI_tI, gI_tL, gL_tI, gL_tL, if_pos, if_neg, if_true, if_false, and_self] <;> exact q
theorem RR_msg0 {ρ : Nat → Int32} {σ : St}  (h : RR ρ σ) : RR (uf ρ 187 0) (tI σ 0 7 0) := by
  obtain ⟨h1, h2, h3, h4, h5, h6, h7, h8, h9, h10, h11, h12, h13, h14, h15, h16, h17, h18, h19, h20⟩ := h
  refine ⟨?_, ?_, ?_, ?_, ?_, ?_, ?_, ?_, ?_, ?_, ?_, ?_, ?_, ?_, ?_, ?_, ?_, ?_, ?_, ?_⟩
  · intro i hi
    have q := h1 i hi
    simp (disch := omega) only [uf_ap, gI_tI, gI_tL, gL_tI, gL_tL, if_pos, if_neg, if_true, if_false, and_self] <;> exact q
  · intro i hi
    have q := h2 i hi
    simp (disch := omega) only [uf_ap, gI_tI, gI_tL, gL_tI, gL_tL, if_pos, if_neg, if_true, if_false, and_self] <;> exact q
  · intro i hi
    have q := h3 i hi
    simp (disch := omega) only [uf_ap, gI_tI, gI_tL, gL_tI, gL_tL, if_pos, if_neg, if_true, if_false, and_self] <;> exact q
  · intro i hi
    have q := h4 i hi
    simp (disch := omega) only [uf_ap, gI_tI, gI_tL, gL_tI, gL_tL, if_pos, if_neg, if_true, if_false, and_self] <;> exact q
  · intro i hi k
    have q := h5 i hi k
    simp (disch := omega) only [uf_ap, gI_tI, gI_tL, gL_tI, gL_tL, if_pos, if_neg, if_true, if_false, and_self] <;> exact q
  · intro i hi
    have q := h6 i hi
    simp (disch := omega) only [uf_ap, gI_tI, gI_tL, gL_tI, gL_tL, if_pos, if_neg, if_true, if_false, and_self] <;> exact q
  · intro j hj
    have q := h7 j hj
    simp (disch := omega) only [uf_ap, gI_tI, gI_tL, gL_tI, gL_tL, if_pos, if_neg, if_true, if_false, and_self] <;> exact q
  · intro i hi j hj hl
    have q := h8 i hi j hj hl
    simp (disch := omega) only [uf_ap, gI_tI, gI_tL, gL_tI, gL_tL, if_pos, if_neg, if_true, if_false, and_self] <;> exact q
  · intro k hk hl
    exfalso
    rw [gI_tI, if_pos ⟨rfl, rfl⟩, show ix (0 : Int32) = 0 from by decide] at hl
    omega
  · intro k hk hl
    exfalso
    rw [gI_tI, if_pos ⟨rfl, rfl⟩, show ix (0 : Int32) = 0 from by decide] at hl
    omega
  · have q := h11 
    simp (disch := omega) only [uf_ap, gI_tI, gI_tL, gL_tI, gL_tL, if_pos, if_neg, if_true, if_false, and_self] <;> exact q
  · have q := h12 
    simp (disch := omega) only [uf_ap, gI_tI, gI_tL, gL_tI, gL_tL, if_pos, if_neg, if_true, if_false, and_self] <;> exact q
  · have q := h13 
    simp (disch := omega) only [uf_ap, gI_tI, gI_tL, gL_tI, gL_tL, if_pos, if_neg, if_true, if_false, and_self] <;> exact q
  · have q := h14 
    simp (disch := omega) only [uf_ap, gI_tI, gI_tL, gL_tI, gL_tL, if_pos, if_neg, if_true, if_false, and_self] <;> exact q
  · have q := h15 
    simp (disch := omega) only [uf_ap, gI_tI, gI_tL, gL_tI, gL_tL, if_pos, if_neg, if_true, if_false, and_self] <;> exact q
  · have q := h16 
    simp (disch := omega) only [uf_ap, gI_tI, gI_tL, gL_tI, gL_tL, if_pos, if_neg, if_true, if_false, and_self] <;> exact q
  · have q := h17 
    simp (disch := omega) only [uf_ap, gI_tI, gI_tL, gL_tI, gL_tL, if_pos, if_neg, if_true, if_false, and_self] <;> exact q
  · have q := h18 
    simp (disch := omega) only [uf_ap, gI_tI, gI_tL, gL_tI, gL_tL, if_pos, if_neg, if_true, if_false, and_self] <;> exact q
  · intro i hi
    have q := h19 i hi
    simp (disch := omega) only [uf_ap, gI_tI, gI_tL, gL_tI, gL_tL, if_pos, if_neg, if_true, if_false, and_self] <;> exact q
  · intro i hi j hj hl
    have q := h20 i hi j hj hl
    simp (disch := omega) only [uf_ap, gI_tI, gI_tL, gL_tI, gL_tL, if_pos, if_neg, if_true, if_false, and_self] <;> exact q
theorem RR_log {ρ : Nat → Int32} {σ : St}  {a e : Nat} {v : Int64} (h : RR ρ σ) (ha : a < 6) (he : e < 64) (hx : gI σ 7 a = ni e) (hg : 0 < gI σ 1 a) : RR (uf (uf (uf ρ (200 + 2 * (64 * a + e)) (hi9 v)) (200 + 2 * (64 * a + e) + 1) (lo9 v)) (6 + a) (ni (e + 1))) (tI (tL σ 12 (a * 64 + e) v) 7 a (ni (e + 1))) := by
  obtain ⟨h1, h2, h3, h4, h5, h6, h7, h8, h9, h10, h11, h12, h13, h14, h15, h16, h17, h18, h19, h20⟩ := h
  refine ⟨?_, ?_, ?_, ?_, ?_, ?_, ?_, ?_, ?_, ?_, ?_, ?_, ?_, ?_, ?_, ?_, ?_, ?_, ?_, ?_⟩
  · intro i hi
    have q := h1 i hi
    simp (disch := omega) only [uf_ap, gI_tI, gI_tL, gL_tI, gL_tL, if_pos, if_neg, if_true, if_false, and_self] <;> exact q
  · intro i hi
    have q := h2 i hi
    by_cases e1 : i = a
    · subst e1
      simp (disch := omega) only [uf_ap, gI_tI, gI_tL, if_pos, if_neg, if_true, if_false, and_self, hg]
    · simp (disch := omega) only [uf_ap, gI_tI, gI_tL, if_pos, if_neg, if_true, if_false, and_self]
      exact q
  · intro i hi
    have q := h3 i hi
    simp (disch := omega) only [uf_ap, gI_tI, gI_tL, gL_tI, gL_tL, if_pos, if_neg, if_true, if_false, and_self] <;> exact q
  · intro i hi
    have q := h4 i hi
    simp (disch := omega) only [uf_ap, gI_tI, gI_tL, gL_tI, gL_tL, if_pos, if_neg, if_true, if_false, and_self] <;> exact q
  · intro i hi k
    have q := h5 i hi k
    simp (disch := omega) only [uf_ap, gI_tI, gI_tL, gL_tI, gL_tL, if_pos, if_neg, if_true, if_false, and_self] <;> exact q
  · intro i hi
    have q := h6 i hi
    simp (disch := omega) only [uf_ap, gI_tI, gI_tL, gL_tI, gL_tL, if_pos, if_neg, if_true, if_false, and_self] <;> exact q
  · intro j hj
    have q := h7 j hj
    simp (disch := omega) only [uf_ap, gI_tI, gI_tL, gL_tI, gL_tL, if_pos, if_neg, if_true, if_false, and_self] <;> exact q
  · intro i hi j hj hl
    have q := h8 i hi j hj hl
    simp (disch := omega) only [uf_ap, gI_tI, gI_tL, gL_tI, gL_tL, if_pos, if_neg, if_true, if_false, and_self] <;> exact q
  · intro k hk hl
    have q := h9 k hk hl
    simp (disch := omega) only [uf_ap, gI_tI, gI_tL, gL_tI, gL_tL, if_pos, if_neg, if_true, if_false, and_self] <;> exact q
  · intro k hk hl
    have q := h10 k hk hl
    simp (disch := omega) only [uf_ap, gI_tI, gI_tL, gL_tI, gL_tL, if_pos, if_neg, if_true, if_false, and_self] <;> exact q
  · have q := h11 
    simp (disch := omega) only [uf_ap, gI_tI, gI_tL, gL_tI, gL_tL, if_pos, if_neg, if_true, if_false, and_self] <;> exact q
  · have q := h12 
    simp (disch := omega) only [uf_ap, gI_tI, gI_tL, gL_tI, gL_tL, if_pos, if_neg, if_true, if_false, and_self] <;> exact q
  · have q := h13 
    simp (disch := omega) only [uf_ap, gI_tI, gI_tL, gL_tI, gL_tL, if_pos, if_neg, if_true, if_false, and_self] <;> exact q
  · have q := h14 
    simp (disch := omega) only [uf_ap, gI_tI, gI_tL, gL_tI, gL_tL, if_pos, if_neg, if_true, if_false, and_self] <;> exact q
  · have q := h15 
    simp (disch := omega) only [uf_ap, gI_tI, gI_tL, gL_tI, gL_tL, if_pos, if_neg, if_true, if_false, and_self] <;> exact q
  · have q := h16 
    simp (disch := omega) only [uf_ap, gI_tI, gI_tL, gL_tI, gL_tL, if_pos, if_neg, if_true, if_false, and_self] <;> exact q
  · have q := h17 
    simp (disch := omega) only [uf_ap, gI_tI, gI_tL, gL_tI, gL_tL, if_pos, if_neg, if_true, if_false, and_self] <;> exact q
  · have q := h18 
    simp (disch := omega) only [uf_ap, gI_tI, gI_tL, gL_tI, gL_tL, if_pos, if_neg, if_true, if_false, and_self] <;> exact q
  · intro i hi
    have q := h19 i hi
    simp (disch := omega) only [uf_ap, gI_tI, gI_tL, gL_tI, gL_tL, if_pos, if_neg, if_true, if_false, and_self] <;> exact q
  · intro i hi j hj hl
    by_cases e1 : i = a
    · subst e1
      rw [gI_tI, if_pos ⟨rfl, rfl⟩, ix_ni (by omega)] at hl
      by_cases e2 : j = e
      · subst e2
        simp (disch := omega) only [uf_ap, gL_tI, gL_tL, if_pos, if_neg, if_true, if_false, and_self]
      · have q := h20 i hi j hj (by rw [hx, ix_ni (by omega)]; omega)
        simp (disch := omega) only [uf_ap, gL_tI, gL_tL, if_pos, if_neg, if_true, if_false, and_self]
        exact q
    · have q := h20 i hi j hj (by rw [gI_tI, if_neg (by omega), gI_tL] at hl; exact hl)
      simp (disch := omega) only [uf_ap, gL_tI, gL_tL, if_pos, if_neg, if_true, if_false, and_self]
      exact q
theorem RR_age {ρ : Nat → Int32} {σ : St}  {a : Nat} {v : Int32} (h : RR ρ σ) (ha : a < 6) (hg : 0 < gI σ 1 a) (hv : 0 < v) : RR (uf ρ a v) (tI σ 1 a v) := by
  obtain ⟨h1, h2, h3, h4, h5, h6, h7, h8, h9, h10, h11, h12, h13, h14, h15, h16, h17, h18, h19, h20⟩ := h
  refine ⟨?_, ?_, ?_, ?_, ?_, ?_, ?_, ?_, ?_, ?_, ?_, ?_, ?_, ?_, ?_, ?_, ?_, ?_, ?_, ?_⟩
  · intro i hi
    have q := h1 i hi
    by_cases e : i = a
    · simp (disch := omega) only [uf_ap, gI_tI, gI_tL, gL_tI, gL_tL, if_pos, if_neg, if_true, if_false, e, and_self] <;> exact q
    · simp (disch := omega) only [uf_ap, gI_tI, gI_tL, gL_tI, gL_tL, if_pos, if_neg, if_true, if_false, e, and_self] <;> exact q
  · intro i hi
    have q := h2 i hi
    by_cases e1 : i = a
    · subst e1
      simp (disch := omega) only [uf_ap, gI_tI, gI_tL, if_pos, if_neg, if_true, if_false, and_self, hg, hv] at q ⊢
      exact q
    · simp (disch := omega) only [uf_ap, gI_tI, gI_tL, if_pos, if_neg, if_true, if_false, and_self]
      exact q
  · intro i hi
    have q := h3 i hi
    simp (disch := omega) only [uf_ap, gI_tI, gI_tL, gL_tI, gL_tL, if_pos, if_neg, if_true, if_false, and_self] <;> exact q
  · intro i hi
    have q := h4 i hi
    simp (disch := omega) only [uf_ap, gI_tI, gI_tL, gL_tI, gL_tL, if_pos, if_neg, if_true, if_false, and_self] <;> exact q
  · intro i hi k
    have q := h5 i hi k
    simp (disch := omega) only [uf_ap, gI_tI, gI_tL, gL_tI, gL_tL, if_pos, if_neg, if_true, if_false, and_self] <;> exact q
  · intro i hi
    have q := h6 i hi
    simp (disch := omega) only [uf_ap, gI_tI, gI_tL, gL_tI, gL_tL, if_pos, if_neg, if_true, if_false, and_self] <;> exact q
  · intro j hj
    have q := h7 j hj
    simp (disch := omega) only [uf_ap, gI_tI, gI_tL, gL_tI, gL_tL, if_pos, if_neg, if_true, if_false, and_self] <;> exact q
  · intro i hi j hj hl
    have q := h8 i hi j hj hl
    simp (disch := omega) only [uf_ap, gI_tI, gI_tL, gL_tI, gL_tL, if_pos, if_neg, if_true, if_false, and_self] <;> exact q
  · intro k hk hl
    have q := h9 k hk hl
    simp (disch := omega) only [uf_ap, gI_tI, gI_tL, gL_tI, gL_tL, if_pos, if_neg, if_true, if_false, and_self] <;> exact q
  · intro k hk hl
    have q := h10 k hk hl
    simp (disch := omega) only [uf_ap, gI_tI, gI_tL, gL_tI, gL_tL, if_pos, if_neg, if_true, if_false, and_self] <;> exact q
  · have q := h11 
    simp (disch := omega) only [uf_ap, gI_tI, gI_tL, gL_tI, gL_tL, if_pos, if_neg, if_true, if_false, and_self] <;> exact q
  · have q := h12 
    simp (disch := omega) only [uf_ap, gI_tI, gI_tL, gL_tI, gL_tL, if_pos, if_neg, if_true, if_false, and_self] <;> exact q
  · have q := h13 
    simp (disch := omega) only [uf_ap, gI_tI, gI_tL, gL_tI, gL_tL, if_pos, if_neg, if_true, if_false, and_self] <;> exact q
  · have q := h14 
    simp (disch := omega) only [uf_ap, gI_tI, gI_tL, gL_tI, gL_tL, if_pos, if_neg, if_true, if_false, and_self] <;> exact q
  · have q := h15 
    simp (disch := omega) only [uf_ap, gI_tI, gI_tL, gL_tI, gL_tL, if_pos, if_neg, if_true, if_false, and_self] <;> exact q
  · have q := h16 
    simp (disch := omega) only [uf_ap, gI_tI, gI_tL, gL_tI, gL_tL, if_pos, if_neg, if_true, if_false, and_self] <;> exact q
  · have q := h17 
    simp (disch := omega) only [uf_ap, gI_tI, gI_tL, gL_tI, gL_tL, if_pos, if_neg, if_true, if_false, and_self] <;> exact q
  · have q := h18 
    simp (disch := omega) only [uf_ap, gI_tI, gI_tL, gL_tI, gL_tL, if_pos, if_neg, if_true, if_false, and_self] <;> exact q
  · intro i hi
    have q := h19 i hi
    simp (disch := omega) only [uf_ap, gI_tI, gI_tL, gL_tI, gL_tL, if_pos, if_neg, if_true, if_false, and_self] <;> exact q
  · intro i hi j hj hl
    have q := h20 i hi j hj hl
    simp (disch := omega) only [uf_ap, gI_tI, gI_tL, gL_tI, gL_tL, if_pos, if_neg, if_true, if_false, and_self] <;> exact q
theorem RR_come {ρ : Nat → Int32} {σ : St}  {a : Nat} {v : Int32} {s : Int64} (h : RR ρ σ) (ha : a < 6) (hv : 0 < v) : RR (uf (uf (uf (uf ρ a v) (188 + 2 * a) (hi9 s)) (188 + 2 * a + 1) (lo9 s)) (6 + a) 0) (tI (tL (tI σ 1 a v) 11 a s) 7 a 0) := by
  obtain ⟨h1, h2, h3, h4, h5, h6, h7, h8, h9, h10, h11, h12, h13, h14, h15, h16, h17, h18, h19, h20⟩ := h
  refine ⟨?_, ?_, ?_, ?_, ?_, ?_, ?_, ?_, ?_, ?_, ?_, ?_, ?_, ?_, ?_, ?_, ?_, ?_, ?_, ?_⟩
  · intro i hi
    have q := h1 i hi
    by_cases e : i = a
    · simp (disch := omega) only [uf_ap, gI_tI, gI_tL, gL_tI, gL_tL, if_pos, if_neg, if_true, if_false, e, and_self] <;> exact q
    · simp (disch := omega) only [uf_ap, gI_tI, gI_tL, gL_tI, gL_tL, if_pos, if_neg, if_true, if_false, e, and_self] <;> exact q
  · intro i hi
    have q := h2 i hi
    by_cases e1 : i = a
    · subst e1
      simp (disch := omega) only [uf_ap, gI_tI, gI_tL, if_pos, if_neg, if_true, if_false, and_self, hv]
    · simp (disch := omega) only [uf_ap, gI_tI, gI_tL, if_pos, if_neg, if_true, if_false, and_self]
      exact q
  · intro i hi
    have q := h3 i hi
    simp (disch := omega) only [uf_ap, gI_tI, gI_tL, gL_tI, gL_tL, if_pos, if_neg, if_true, if_false, and_self] <;> exact q
  · intro i hi
    have q := h4 i hi
    simp (disch := omega) only [uf_ap, gI_tI, gI_tL, gL_tI, gL_tL, if_pos, if_neg, if_true, if_false, and_self] <;> exact q
  · intro i hi k
    have q := h5 i hi k
    simp (disch := omega) only [uf_ap, gI_tI, gI_tL, gL_tI, gL_tL, if_pos, if_neg, if_true, if_false, and_self] <;> exact q
  · intro i hi
    have q := h6 i hi
    simp (disch := omega) only [uf_ap, gI_tI, gI_tL, gL_tI, gL_tL, if_pos, if_neg, if_true, if_false, and_self] <;> exact q
  · intro j hj
    have q := h7 j hj
    simp (disch := omega) only [uf_ap, gI_tI, gI_tL, gL_tI, gL_tL, if_pos, if_neg, if_true, if_false, and_self] <;> exact q
  · intro i hi j hj hl
    have q := h8 i hi j hj hl
    simp (disch := omega) only [uf_ap, gI_tI, gI_tL, gL_tI, gL_tL, if_pos, if_neg, if_true, if_false, and_self] <;> exact q
  · intro k hk hl
    have q := h9 k hk hl
    simp (disch := omega) only [uf_ap, gI_tI, gI_tL, gL_tI, gL_tL, if_pos, if_neg, if_true, if_false, and_self] <;> exact q
  · intro k hk hl
    have q := h10 k hk hl
    simp (disch := omega) only [uf_ap, gI_tI, gI_tL, gL_tI, gL_tL, if_pos, if_neg, if_true, if_false, and_self] <;> exact q
  · have q := h11 
    simp (disch := omega) only [uf_ap, gI_tI, gI_tL, gL_tI, gL_tL, if_pos, if_neg, if_true, if_false, and_self] <;> exact q
  · have q := h12 
    simp (disch := omega) only [uf_ap, gI_tI, gI_tL, gL_tI, gL_tL, if_pos, if_neg, if_true, if_false, and_self] <;> exact q
  · have q := h13 
    simp (disch := omega) only [uf_ap, gI_tI, gI_tL, gL_tI, gL_tL, if_pos, if_neg, if_true, if_false, and_self] <;> exact q
  · have q := h14 
    simp (disch := omega) only [uf_ap, gI_tI, gI_tL, gL_tI, gL_tL, if_pos, if_neg, if_true, if_false, and_self] <;> exact q
  · have q := h15 
    simp (disch := omega) only [uf_ap, gI_tI, gI_tL, gL_tI, gL_tL, if_pos, if_neg, if_true, if_false, and_self] <;> exact q
  · have q := h16 
    simp (disch := omega) only [uf_ap, gI_tI, gI_tL, gL_tI, gL_tL, if_pos, if_neg, if_true, if_false, and_self] <;> exact q
  · have q := h17 
    simp (disch := omega) only [uf_ap, gI_tI, gI_tL, gL_tI, gL_tL, if_pos, if_neg, if_true, if_false, and_self] <;> exact q
  · have q := h18 
    simp (disch := omega) only [uf_ap, gI_tI, gI_tL, gL_tI, gL_tL, if_pos, if_neg, if_true, if_false, and_self] <;> exact q
  · intro i hi
    have q := h19 i hi
    by_cases e : i = a
    · simp (disch := omega) only [uf_ap, gI_tI, gI_tL, gL_tI, gL_tL, if_pos, if_neg, if_true, if_false, e, and_self] <;> exact q
    · simp (disch := omega) only [uf_ap, gI_tI, gI_tL, gL_tI, gL_tL, if_pos, if_neg, if_true, if_false, e, and_self] <;> exact q
  · intro i hi j hj hl
    by_cases e1 : i = a
    · subst e1
      exfalso
      rw [gI_tI, if_pos ⟨rfl, rfl⟩, show ix (0 : Int32) = 0 from by decide] at hl
      omega
    · have q := h20 i hi j hj (by rw [gI_tI, if_neg (by omega), gI_tL, gI_tI, if_neg (by omega)] at hl; exact hl)
      simp (disch := omega) only [uf_ap, gL_tI, gL_tL, if_pos, if_neg, if_true, if_false, and_self]
      exact q
theorem RR_way {ρ ρ' : Nat → Int32} {σ σ' : St} (h : RR ρ σ) (hr : ∀ j, j < 24 ∨ 30 ≤ j → ρ' j = ρ j) (hs : ∀ b j, b ≠ 10 → gI σ' b j = gI σ b j) (hl : ∀ b j, gL σ' b j = gL σ b j)
    (H : ∀ i, i < 6 → ∀ k, tb (ρ' (24 + i)) k = (decide (k < 30) && tb (gI σ' 10 k) i)) : RR ρ' σ' := by
  obtain ⟨h1, h2, h3, h4, h5, h6, h7, h8, h9, h10, h11, h12, h13, h14, h15, h16, h17, h18, h19, h20⟩ := h
  refine ⟨?_, ?_, ?_, ?_, H, ?_, ?_, ?_, ?_, ?_, ?_, ?_, ?_, ?_, ?_, ?_, ?_, ?_, ?_, ?_⟩
  · intro i hi
    rw [hr _ (by omega), hs _ _ (by omega)]
    exact h1 i hi
  · intro i hi
    rw [hr _ (by omega), hs _ _ (by omega), hs _ _ (by omega)]
    exact h2 i hi
  · intro i hi
    rw [hr _ (by omega), hs _ _ (by omega)]
    exact h3 i hi
  · intro i hi
    rw [hr _ (by omega), hs _ _ (by omega)]
    exact h4 i hi
  all_goals simp (disch := omega) only [hr, hs, hl]
  all_goals assumption
