/-! L2: the storm on a copy (class). -/
theorem c_stormS {n len B l t : Nat} {cs : Nat → Nat} {x w : Int32} {m : Mm} (c : QC n len cs m) (wf : WF n B (absC m 16)) (ht : t ≤ 96) (hB : B + 200 < 1000000) (hl : l ≤ 30) (h3 : rI m 3 2 = ni l) :
    ∃ m1 m', F_X7_copy 29 16 m = some ((), m1) ∧ G m1 ∧ F_X8_blow 47 29 14 x (ni t) w m1 = some ((), m') ∧ absC m' 29 = (blP cs len n l w t 0 (x, absC m 16)).2 ∧ Fm (AG 29) m m' ∧ WF n (B + 2 * t) (blP cs len n l w t 0 (x, absC m 16)).2 := by
  have g := c.1
  obtain ⟨m1, x1, x2, x3⟩ := c_copy (G_29 g) (G_16 g) (.inr (by omega))
  have c1 := QC_s c (.inr rfl) x3
  have g1 := c1.1
  have f1 : Fm (fun b => b = 47) m1 (wI m1 47 0 x) := Fm_wI (Fm_refl _ _) rfl
  have c2 : QC n len cs (wI m1 47 0 x) := QC_fr c1 f1 (by omega) (by omega) (by omega) (by omega)
  obtain ⟨m', y1, y2, y3, y4⟩ := c_blowL (B := B) (w := w) (s := 29) (.inr rfl) ht hB hl t 0 NF (x, absC m 16) (wI m1 47 0 x) (by omega) (by unfold NF; omega) c2 wf ((abs_fr f1 (fun b h1 h2 => by omega)).trans x2) (by rw [rIw, uf_at]) (by rw [rIw_ne (by omega), (x3.1 3 (by unfold reg; omega)).1]; exact h3)
  refine ⟨m1, m', x1, g1, ?_, y2, ?_, y4⟩
  · unfold F_X8_blow
    rw [gO47 g1, gd_t, lt9_e, lt9_e]
    rw [ni_0] at y1
    exact y1
  · refine Fm_trans (Fm_mono (fun b z => .inl (.inr z)) x3) (Fm_trans (Fm_mono (fun b z => .inr z) f1) y3)
