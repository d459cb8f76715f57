/-! L2: the reference's copy of a row. -/
theorem r_copL {a b : Nat} (hab : a ≠ b) : ∀ (d i fuel : Nat) (m : Mm), i + d = 968 → d < fuel → (sH m)[a]? = some (100, 968) → (sH m)[b]? = some (100, 968) → (∀ j, j < i → rI m b j = rI m a j) →
    ∃ m', L_X12_copies_2 fuel a b (ni i) m = some ((), m') ∧ Fm (fun c => c = b) m m' ∧ ∀ j, j < 968 → rI m' b j = rI m a j := by
  intro d
  induction d with
  | zero =>
    intro i fuel m hi hf ha hb h
    obtain ⟨fuel, rfl⟩ : ∃ z, fuel = z + 1 := ⟨fuel - 1, by omega⟩
    have e0 : i = 968 := by omega
    subst e0
    refine ⟨m, ?_, Fm_refl _ _, h⟩
    rw [L_X12_copies_2, if_pos (show (968 : Int32) ≤ ni 968 by decide)]
  | succ d ih =>
    intro i fuel m hi hf ha hb h
    obtain ⟨fuel, rfl⟩ : ∃ z, fuel = z + 1 := ⟨fuel - 1, by omega⟩
    have e : ¬ (968 : Int32) ≤ ni i := fun z => by
      rw [show (968 : Int32) = ni 968 from rfl, ni_le (by omega) (by omega)] at z
      omega
    obtain ⟨m', y1, y2, y3⟩ := ih (i + 1) fuel (wI m b i (rI m a i)) (by omega) (by omega) ha hb (fun j hj => by
      rw [rIw, rIw_ne hab, uf_ap]
      by_cases q : j = i
      · rw [if_pos q, q]
      · rw [if_neg q]
        exact h j (by omega))
    refine ⟨m', ?_, Fm_trans (Fm_wI (Fm_refl _ _) rfl) y2, fun j hj => ?_⟩
    · rw [L_X12_copies_2, if_neg e, okA_of ha (by omega) (by omega), gd_t, okA_of hb (by omega) (by omega), gd_t, lt9_e, lt9_e, ix_ni (by omega), show ni i + 1 = ni (i + 1) from ni_add _ 1]
      exact y1
    · rw [y3 j hj, rIw_ne hab]
theorem r_cop {a b : Nat} {m : Mm} (hab : a ≠ b) (ha : (sH m)[a]? = some (100, 968)) (hb : (sH m)[b]? = some (100, 968)) : ∃ m', F_X12_copies a b m = some ((), m') ∧ Fm (fun c => c = b) m m' ∧ ∀ j, j < 968 → rI m' b j = rI m a j := by
  unfold F_X12_copies
  rw [lt9_e]
  exact r_copL hab 968 0 NF m (by omega) (by unfold NF; omega) ha hb (fun j hj => by omega)
