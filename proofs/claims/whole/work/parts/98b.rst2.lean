/-! L2: the storm on a copy (reference). -/
theorem RR_cp {ρ ρ' : Nat → Int32} {σ : St} (h : RR ρ σ) (hr : ∀ j, j < 968 → ρ' j = ρ j) : RR ρ' σ := by
  obtain ⟨h1, h2, h3, h4, h5, h6, h7, h8, h9, h10, h11, h12, h13, h14, h15, h16, h17, h18, h19, h20⟩ := h
  refine ⟨?_, ?_, ?_, ?_, ?_, ?_, ?_, ?_, ?_, ?_, ?_, ?_, ?_, ?_, ?_, ?_, ?_, ?_, ?_, ?_⟩
  · intro i hi; rw [hr _ (by omega)]; exact h1 i hi
  · intro i hi; rw [hr _ (by omega)]; exact h2 i hi
  · intro i hi; rw [hr _ (by omega)]; exact h3 i hi
  · intro i hi; rw [hr _ (by omega)]; exact h4 i hi
  · intro i hi; rw [hr _ (by omega)]; exact h5 i hi
  · intro i hi; rw [hr _ (by omega)]; exact h6 i hi
  · intro i hi; rw [hr _ (by omega)]; exact h7 i hi
  · intro i hi j hj hk; rw [hr _ (by omega)]; exact h8 i hi j hj hk
  · intro i hi hk; rw [hr _ (by omega)]; exact h9 i hi hk
  · intro i hi hk; rw [hr _ (by omega)]; exact h10 i hi hk
  · rw [hr _ (by omega)]; exact h11
  · rw [hr _ (by omega)]; exact h12
  · rw [hr _ (by omega)]; exact h13
  · rw [hr _ (by omega)]; exact h14
  · rw [hr _ (by omega)]; exact h15
  · rw [hr _ (by omega)]; exact h16
  · rw [hr _ (by omega)]; exact h17
  · rw [hr _ (by omega)]; exact h18
  · intro i hi; rw [hr _ (by omega), hr _ (by omega)]; exact h19 i hi
  · intro i hi j hj hk; rw [hr _ (by omega), hr _ (by omega)]; exact h20 i hi j hj hk
theorem r_stormS {n len B l t : Nat} {cs : Nat → Nat} {x y : Int32} {σ : St} {m : Mm} (c : RC n (ni l) len cs m) (h : RR (rI m 473) σ) (wf : WF n B σ) (ht : t ≤ 96) (hB : B + 200 < 1000000) (hl : l ≤ 30) :
    ∃ m', F_X12_stormBy 49 x (ni t) y m = some ((), m') ∧ RR (rI m' 474) (blP cs len n l y t 0 (x, σ)).2 ∧ Gw 474 m m' := by
  have g := c.1
  obtain ⟨m1, x1, x2, x3⟩ := r_cop (a := 473) (b := 474) (m := m) (by omega) ((g.1 473 (by omega)).trans sx473) ((g.1 474 (by omega)).trans sx474)
  have w1 : Gw 474 m m1 := (Gw_w (.inr rfl) (eq_AW x2)).1
  have c1 := RC_gw (.inr rfl) c w1
  have g1 := c1.1
  have c2 := RC_36 (v := x) c1
  have h2 : RR (rI (wI m1 49 36 x) 474) σ := by
    rw [rIw_ne (by omega)]
    exact RR_cp h x3
  obtain ⟨m', y1, y2, y3⟩ := r_blowL (B := B) (y := y) ht hB hl t 0 NF (x, σ) (wI m1 49 36 x) (by omega) (by unfold NF; omega) c2 wf h2 (by rw [rIw, uf_at])
  refine ⟨m', ?_, y2, Gw_trans w1 (Gw_trans (Gw_36 474 m1 x) y3)⟩
  unfold F_X12_stormBy
  rw [ni_0] at y1
  simp only [gO49 g, gO49 g1, gd_t, gR49_23 g, gR49_24 g, oc_s, bdE x1, lt9_e]
  exact y1
