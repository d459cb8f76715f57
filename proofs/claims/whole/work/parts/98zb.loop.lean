/-! L2: the law's loop. -/
theorem D_fault {k : Nat} {m : Mm} (hk : k ≤ 600) (h : Inv k m) : Cl0 k m (F_X11_fault 0) (F_X12_fault 49) := by
  obtain ⟨n, l, len, cs, bk, y, t, pl, rf, ru, pk, ik, jk, ct, hC, hR, p, h1, h2⟩ := h
  exact cal0 hC hR p h1 h2 hk (qc_fault hC) (fun m1 g1 hR1 => qr_fault g1 hR1)
theorem D_primary {k : Nat} {m : Mm} (hk : k ≤ 600) (h : Inv k m) : Cl0 k m (F_X11_primary 0) (F_X12_primary 49) := by
  obtain ⟨n, l, len, cs, bk, y, t, pl, rf, ru, pk, ik, jk, ct, hC, hR, p, h1, h2⟩ := h
  exact cal0 hC hR p h1 h2 hk (qc_primary p hC) (fun m1 g1 hR1 => qr_primary p g1 hR1)
theorem D_lost {k : Nat} {m : Mm} (hk : k ≤ 600) (h : Inv k m) : Cl0 k m (F_X11_lost 0) (F_X12_lost 49) := by
  obtain ⟨n, l, len, cs, bk, y, t, pl, rf, ru, pk, ik, jk, ct, hC, hR, p, h1, h2⟩ := h
  exact cal0 hC hR p h1 h2 hk (qc_lost p hC) (fun m1 g1 hR1 => qr_lost p g1 hR1)
theorem D_fall {k : Nat} {m : Mm} (hk : k ≤ 600) (h : Inv k m) : Cl0 k m (F_X11_fall 0) (F_X12_fall 49) := by
  obtain ⟨n, l, len, cs, bk, y, t, pl, rf, ru, pk, ik, jk, ct, hC, hR, p, h1, h2⟩ := h
  exact cal0 hC hR p h1 h2 hk (qc_fall p hC) (fun m1 g1 hR1 => qr_fall p g1 hR1)
theorem D_splits {k : Nat} {m : Mm} (hk : k ≤ 600) (h : Inv k m) : Cl0 k m (F_X11_splits 0) (F_X12_splits 49) := by
  obtain ⟨n, l, len, cs, bk, y, t, pl, rf, ru, pk, ik, jk, ct, hC, hR, p, h1, h2⟩ := h
  exact cal0 hC hR p h1 h2 hk (qc_splits p hC) (fun m1 g1 hR1 => qr_splits p g1 hR1)
theorem D_tells {k : Nat} {m : Mm} (hk : k ≤ 600) (h : Inv k m) : Cl0 k m (F_X11_tells 0) (F_X12_tells 49) := by
  obtain ⟨n, l, len, cs, bk, y, t, pl, rf, ru, pk, ik, jk, ct, hC, hR, p, h1, h2⟩ := h
  exact cal0 hC hR p h1 h2 hk (qc_tells p hC) (fun m1 g1 hR1 => qr_tells p g1 hR1)
theorem D_agree {k : Nat} {m : Mm} (hk : k ≤ 600) (h : Inv k m) : Cl0 k m (F_X11_agree 0) (F_X12_agree 49) := by
  obtain ⟨n, l, len, cs, bk, y, t, pl, rf, ru, pk, ik, jk, ct, hC, hR, p, h1, h2⟩ := h
  exact cal0 hC hR p h1 h2 hk (qc_agree p hC) (fun m1 g1 hR1 => qr_agree p g1 hR1)
theorem D_note {k : Nat} {m : Mm} (hk : k ≤ 600) (h : Inv k m) : Cl0 k m (F_X11_note 0) (F_X12_note 49) := by
  obtain ⟨n, l, len, cs, bk, y, t, pl, rf, ru, pk, ik, jk, ct, hC, hR, p, h1, h2⟩ := h
  obtain ⟨v, c, e1, e2, e3, e4⟩ := WF_v (p.2.2.2.2.2.2.2 0 (Val_0 _ _ _))
  exact cal0 hC hR p h1 h2 hk (qc_note p hC e1 e2 e3 e4) (fun m1 g1 hR1 => qr_note p g1 hR1 e1 e2 e3 e4)
theorem D_status {k : Nat} {m : Mm} {a : Int32} (hk : k ≤ 600) (h : Inv k m) : Cl0 k m (F_X11_status 0 a) (F_X12_status 49 a) := by
  obtain ⟨n, l, len, cs, bk, y, t, pl, rf, ru, pk, ik, jk, ct, hC, hR, p, h1, h2⟩ := h
  exact cal0 hC hR p h1 h2 hk (qc_status hC) (fun m1 g1 hR1 => qr_status g1 hR1)
theorem D_count {k : Nat} {m : Mm} {a : Int32} (hk : k ≤ 600) (h : Inv k m) : Cl0 k m (F_X11_count 0 a) (F_X12_count 49 a) := by
  obtain ⟨n, l, len, cs, bk, y, t, pl, rf, ru, pk, ik, jk, ct, hC, hR, p, h1, h2⟩ := h
  exact cal0 hC hR p h1 h2 hk (qc_count hC) (fun m1 g1 hR1 => qr_count g1 hR1)
theorem D_feed {k : Nat} {m : Mm} {a b c d e : Int32} (hk : k ≤ 600) (h : Inv k m) : Cl0 k m (F_X11_feed 0 a b c d e) (F_X12_feed 49 a b c d e) := C_feed hk h
theorem D_undo {k : Nat} {m : Mm} (hk : k ≤ 600) (h : Inv k m) : Cl0 k m (F_X11_undo 0) (F_X12_undo 49) := C_undo hk h
theorem D_image {k : Nat} {m : Mm} (hk : k ≤ 600) (h : Inv k m) : Cl0 k m (F_X11_image 0) (F_X12_image 49) := C_image hk h
theorem D_restore {k : Nat} {m : Mm} (hk : k ≤ 600) (h : Inv k m) : Cl0 k m (F_X11_restore 0) (F_X12_restore 49) := C_restore hk h
theorem hz_told : ∀ k, hx_L_told k ≠ some 0 := fun k => by
  unfold hx_L_told
  repeat' split
  all_goals first | decide | exact fun z => by cases z
theorem D_told {k : Nat} {m : Mm} {a : Int32} (hk : k ≤ 600) (h : Inv k m) : Cl1 k m (F_L_told 0 a 497) (F_X12_told 49 a) := by
  obtain ⟨n, l, len, cs, bk, y, t, pl, rf, ru, pk, ik, jk, ct, hC, hR, p, h1, h2⟩ := h
  exact cal1 (X := F_X11_told 0 a) hC hR p h1 h2 hk hz_told (qc_told p hC (by unfold K9; omega)) (fun m1 g1 hR1 => qr_told p g1 hR1)
theorem hz_member : ∀ k, hx_L_member k ≠ some 0 := fun k => by
  unfold hx_L_member
  repeat' split
  all_goals first | decide | exact fun z => by cases z
theorem D_member {k : Nat} {m : Mm} {a b : Int32} (hk : k ≤ 600) (h : Inv k m) : Cl1 k m (F_L_member 0 a b 497) (F_X12_member 49 a b) := by
  obtain ⟨n, l, len, cs, bk, y, t, pl, rf, ru, pk, ik, jk, ct, hC, hR, p, h1, h2⟩ := h
  exact cal1 (X := F_X11_member 0 a b) hC hR p h1 h2 hk hz_member (qc_member p hC (by unfold K9; omega)) (fun m1 g1 hR1 => qr_member p g1 hR1)
theorem hz_message : ∀ k, hx_L_message k ≠ some 0 := fun k => by
  unfold hx_L_message
  repeat' split
  all_goals first | decide | exact fun z => by cases z
theorem D_message {k : Nat} {m : Mm} {a b : Int32} (hk : k ≤ 600) (h : Inv k m) : Cl1 k m (F_L_message 0 a b 497) (F_X12_message 49 a b) := by
  obtain ⟨n, l, len, cs, bk, y, t, pl, rf, ru, pk, ik, jk, ct, hC, hR, p, h1, h2⟩ := h
  exact cal1 (X := F_X11_message 0 a b) hC hR p h1 h2 hk hz_message (qc_message p hC (by unfold K9; omega)) (fun m1 g1 hR1 => qr_message p g1 hR1)
theorem hz_knows : ∀ k, hx_L_knows k ≠ some 0 := fun k => by
  unfold hx_L_knows
  repeat' split
  all_goals first | decide | exact fun z => by cases z
theorem D_knows {k : Nat} {m : Mm} {a b : Int32} (hk : k ≤ 600) (h : Inv k m) : Cl1 k m (F_L_knows 0 a b 497) (F_X12_knows 49 a b) := by
  obtain ⟨n, l, len, cs, bk, y, t, pl, rf, ru, pk, ik, jk, ct, hC, hR, p, h1, h2⟩ := h
  exact cal1 (X := F_X11_knows 0 a b) hC hR p h1 h2 hk hz_knows (qc_knows p hC (by unfold K9; omega)) (fun m1 g1 hR1 => qr_knows p g1 hR1)
theorem hz_stable : ∀ k, hx_L_stable k ≠ some 0 := fun k => by
  unfold hx_L_stable
  repeat' split
  all_goals first | decide | exact fun z => by cases z
theorem D_stable {k : Nat} {m : Mm} {a : Int32} (hk : k ≤ 600) (h : Inv k m) : Cl1 k m (F_L_stable 0 a 497) (F_X12_stable 49 a) := by
  obtain ⟨n, l, len, cs, bk, y, t, pl, rf, ru, pk, ik, jk, ct, hC, hR, p, h1, h2⟩ := h
  exact cal1 (X := F_X11_stable 0 a) hC hR p h1 h2 hk hz_stable (qc_stable p hC (by unfold K9; omega)) (fun m1 g1 hR1 => qr_stable p g1 hR1)
theorem hz_would : ∀ k, hx_L_would k ≠ some 0 := fun k => by
  unfold hx_L_would
  repeat' split
  all_goals first | decide | exact fun z => by cases z
theorem D_would {k : Nat} {m : Mm} {a b c d : Int32} (hk : k ≤ 600) (h : Inv k m) : Cl1 k m (F_L_would 0 a b c d 497) (F_X12_would 49 a b c d) := by
  obtain ⟨n, l, len, cs, bk, y, t, pl, rf, ru, pk, ik, jk, ct, hC, hR, p, h1, h2⟩ := h
  exact cal1 (X := F_X11_would 0 a b c d) hC hR p h1 h2 hk hz_would (qc_would p hC (by unfold K9; omega)) (fun m1 g1 hR1 => qr_would p g1 hR1)
theorem hz_missing : ∀ k, hx_L_missing k ≠ some 0 := fun k => by
  unfold hx_L_missing
  repeat' split
  all_goals first | decide | exact fun z => by cases z
theorem D_missing {k : Nat} {m : Mm} {a : Int32} (hk : k ≤ 600) (h : Inv k m) : Cl1 k m (F_L_missing 0 a 497) (F_X12_missing 49 a) := by
  obtain ⟨n, l, len, cs, bk, y, t, pl, rf, ru, pk, ik, jk, ct, hC, hR, p, h1, h2⟩ := h
  exact cal1 (X := F_X11_missing 0 a) hC hR p h1 h2 hk hz_missing (qc_missing p hC (by unfold K9; omega)) (fun m1 g1 hR1 => qr_missing p g1 hR1)
theorem hz_next : ∀ k, hx_L_next k ≠ some 0 := fun k => by
  unfold hx_L_next
  repeat' split
  all_goals first | decide | exact fun z => by cases z
theorem D_next {k : Nat} {m : Mm} {a : Int32} (hk : k ≤ 600) (h : Inv k m) : Cl1 k m (F_L_next 0 a 497) (F_X12_next 49 a) := by
  obtain ⟨n, l, len, cs, bk, y, t, pl, rf, ru, pk, ik, jk, ct, hC, hR, p, h1, h2⟩ := h
  exact cal1 (X := F_X11_next 0 a) hC hR p h1 h2 hk hz_next (qc_next p hC (by unfold K9; omega)) (fun m1 g1 hR1 => qr_next p g1 hR1)
theorem hz_held : ∀ k, hx_L_held k ≠ some 0 := fun k => by
  unfold hx_L_held
  repeat' split
  all_goals first | decide | exact fun z => by cases z
theorem D_held {k : Nat} {m : Mm} {a b : Int32} (hk : k ≤ 600) (h : Inv k m) : Cl1 k m (F_L_held 0 a b 497) (F_X12_held 49 a b) := by
  obtain ⟨n, l, len, cs, bk, y, t, pl, rf, ru, pk, ik, jk, ct, hC, hR, p, h1, h2⟩ := h
  exact cal1 (X := F_X11_held 0 a b) hC hR p h1 h2 hk hz_held (qc_held p hC (by unfold K9; omega)) (fun m1 g1 hR1 => qr_held p g1 hR1)
theorem hz_fits : ∀ k, hx_L_fits k ≠ some 0 := fun k => by
  unfold hx_L_fits
  repeat' split
  all_goals first | decide | exact fun z => by cases z
theorem D_fits {k : Nat} {m : Mm} {a : Int32} (hk : k ≤ 600) (h : Inv k m) : Cl1 k m (F_L_fits 0 a 497) (F_X12_fits 49 a) := by
  obtain ⟨n, l, len, cs, bk, y, t, pl, rf, ru, pk, ik, jk, ct, hC, hR, p, h1, h2⟩ := h
  exact cal1 (X := F_X11_fits 0 a) hC hR p h1 h2 hk hz_fits (qc_fits p hC (by unfold K9; omega)) (fun m1 g1 hR1 => qr_fits p g1 hR1)
theorem hz_look : ∀ k, hx_L_look k ≠ some 0 := fun k => by
  unfold hx_L_look
  repeat' split
  all_goals first | decide | exact fun z => by cases z
theorem D_look {k : Nat} {m : Mm} {a : Int32} (hk : k ≤ 600) (h : Inv k m) : Cl1 k m (F_L_look 0 a 497) (F_X12_look 49 a) := by
  obtain ⟨n, l, len, cs, bk, y, t, pl, rf, ru, pk, ik, jk, ct, hC, hR, p, h1, h2⟩ := h
  exact cal1 (X := F_X11_look 0 a) hC hR p h1 h2 hk hz_look (qc_look p hC (by unfold K9; omega)) (fun m1 g1 hR1 => qr_look p g1 hR1)
theorem hz_spelt : ∀ k, hx_L_spelt k ≠ some 0 := fun k => by
  unfold hx_L_spelt
  repeat' split
  all_goals first | decide | exact fun z => by cases z
theorem D_spelt {k : Nat} {m : Mm} {a : Int32} (hk : k ≤ 600) (h : Inv k m) : Cl1 k m (F_L_spelt 0 a 497) (F_X12_spelt 49 a) := by
  obtain ⟨n, l, len, cs, bk, y, t, pl, rf, ru, pk, ik, jk, ct, hC, hR, p, h1, h2⟩ := h
  obtain ⟨v, c, e1, e2, e3, e4⟩ := WF_v (p.2.2.2.2.2.2.2 0 (Val_0 _ _ _))
  exact cal1 (X := F_X11_spelt 0 a) hC hR p h1 h2 hk hz_spelt (qc_spelt p hC (by unfold K9; omega) e1 e2 e3 e4) (fun m1 g1 hR1 => qr_spelt p g1 hR1 e1 e2 e3 e4)
theorem hz_lore : ∀ k, hx_L_lore k ≠ some 0 := fun k => by
  unfold hx_L_lore
  repeat' split
  all_goals first | decide | exact fun z => by cases z
theorem D_lore {k : Nat} {m : Mm} {a : Int32} (hk : k ≤ 600) (h : Inv k m) : Cl1 k m (F_L_lore 0 a 497) (F_X12_lore 49 a) := by
  obtain ⟨n, l, len, cs, bk, y, t, pl, rf, ru, pk, ik, jk, ct, hC, hR, p, h1, h2⟩ := h
  exact cal1 (X := F_X11_lore 0 a) hC hR p h1 h2 hk hz_lore (qc_lore p hC (by unfold K9; omega)) (fun m1 g1 hR1 => qr_lore p g1 hR1)
theorem hz_behind : ∀ k, hx_L_behind k ≠ some 0 := fun k => by
  unfold hx_L_behind
  repeat' split
  all_goals first | decide | exact fun z => by cases z
theorem D_behind {k : Nat} {m : Mm} {a : Int32} (hk : k ≤ 600) (h : Inv k m) : Cl1 k m (F_L_behind 0 a 497) (F_X12_behind 49 a) := by
  obtain ⟨n, l, len, cs, bk, y, t, pl, rf, ru, pk, ik, jk, ct, hC, hR, p, h1, h2⟩ := h
  exact cal1 (X := F_X11_behind 0 a) hC hR p h1 h2 hk hz_behind (qc_behind p hC (by unfold K9; omega)) (fun m1 g1 hR1 => qr_behind p g1 hR1)
theorem hz_storm : ∀ k, hx_L_storm k ≠ some 0 := fun k => by
  unfold hx_L_storm
  repeat' split
  all_goals first | decide | exact fun z => by cases z
theorem D_storm {k : Nat} {m : Mm} {a b c d : Int32} (hk : k ≤ 600) (h : Inv k m) : Cl1 k m (F_L_storm 0 a b c d 497) (F_X12_storm 49 a b c d) := by
  obtain ⟨n, l, len, cs, bk, y, t, pl, rf, ru, pk, ik, jk, ct, hC, hR, p, h1, h2⟩ := h
  exact cal1 (X := F_X11_storm 0 a b c d) hC hR p h1 h2 hk hz_storm (qc_storm p (by omega) hC (by unfold K9; omega)) (fun m1 g1 hR1 => qr_storm p (by omega) g1 hR1)
theorem hz_span : ∀ k, hx_L_span k ≠ some 0 := fun k => by
  unfold hx_L_span
  repeat' split
  all_goals first | decide | exact fun z => by cases z
theorem D_span {k : Nat} {m : Mm} {a b c d e f : Int32} (hk : k ≤ 600) (h : Inv k m) : Cl1 k m (F_L_span 0 a b c d e f 497) (F_X12_span 49 a b c d e f) := by
  obtain ⟨n, l, len, cs, bk, y, t, pl, rf, ru, pk, ik, jk, ct, hC, hR, p, h1, h2⟩ := h
  exact cal1 (X := F_X11_span 0 a b c d e f) hC hR p h1 h2 hk hz_span (qc_span p (by omega) hC (by unfold K9; omega)) (fun m1 g1 hR1 => qr_span p (by omega) g1 hR1)
theorem hz_tally : ∀ k, hx_L_tally k ≠ some 0 := fun k => by
  unfold hx_L_tally
  repeat' split
  all_goals first | decide | exact fun z => by cases z
theorem D_tally {k : Nat} {m : Mm} {a : Int32} (hk : k ≤ 600) (h : Inv k m) : Cl2 k m (F_L_tally 0 a 497) (F_X12_tally 49 a) := by
  obtain ⟨n, l, len, cs, bk, y, t, pl, rf, ru, pk, ik, jk, ct, hC, hR, p, h1, h2⟩ := h
  exact cal2 (X := F_X11_tally 0 a) hC hR p h1 h2 hk hz_tally (qc_tally p hC (by unfold K9; omega)) (fun m1 g1 hR1 => qr_tally p g1 hR1)
theorem hz_log : ∀ k, hx_L_log k ≠ some 0 := fun k => by
  unfold hx_L_log
  repeat' split
  all_goals first | decide | exact fun z => by cases z
theorem D_log {k : Nat} {m : Mm} {a b : Int32} (hk : k ≤ 600) (h : Inv k m) : Cl2 k m (F_L_log 0 a b 497) (F_X12_log 49 a b) := by
  obtain ⟨n, l, len, cs, bk, y, t, pl, rf, ru, pk, ik, jk, ct, hC, hR, p, h1, h2⟩ := h
  exact cal2 (X := F_X11_log 0 a b) hC hR p h1 h2 hk hz_log (qc_log p hC (by unfold K9; omega)) (fun m1 g1 hR1 => qr_log p g1 hR1)
theorem D_group {k : Nat} {m : Mm} {a : Int32} (hk : k ≤ 600) (h : Inv k m) : Cl1 k m (F_L_group 0 a 497) (F_X12_group 49 a) := C_group hk h
theorem D_law {k : Nat} {m : Mm} {a : Int32} (hk : k ≤ 600) (h : Inv k m) : Cl1 k m (F_L_law 0 a 497) (F_X12_law 49 a) := C_law hk h
theorem D_work {k : Nat} {m : Mm} {a : Int32} (hk : k ≤ 600) (h : Inv k m) : Cl1 k m (F_L_work 0 a 497) (F_X12_work 49 a) := C_work hk h
theorem D_book {k : Nat} {m : Mm} {a : Int32} (hk : k ≤ 600) (h : Inv k m) : Cl1 k m (F_L_book 0 a 497) (F_X12_book 49 a) := C_book hk h
theorem lg_self (x : Int64) : lg_cmp x x = 0 := by
  unfold lg_cmp
  simp
theorem br0 {X Y : Mm → Option (Int32 × Mm)} {k : Nat} {m : Mm} {v4 : Int32} {J : Nat → Nat → Nat → Int32 → Mm → Option (Int32 × Mm)} (g : G m) (h : Cl0 k m X Y) : ∃ m2, Inv (k + 1) m2 ∧ (gd (okO m 0 11) (bd (X m) fun r1 m1 => gd (okO m1 49 12) (bd (Y m1) fun r2 m3 => if r1 = r2 then J 0 49 497 v4 m3 else none))) = J 0 49 497 v4 m2 := by
  obtain ⟨r, m1, m2, x1, g1, y1, i2⟩ := h
  exact ⟨m2, i2, by rw [gO0 g, gd_t, bdE x1, gO49 g1, gd_t, bdE y1, if_pos rfl]⟩
theorem thr_e {m : Mm} {c : Int32} (g : G m) (e : rI m 49 0 = c) : F_X12_thrown 49 m = some (c, m) := by
  unfold F_X12_thrown
  rw [gO49 g, gd_t, e]
theorem br1 {X Y : Mm → Option (Int32 × Mm)} {k : Nat} {m : Mm} {v4 : Int32} {J : Nat → Nat → Nat → Int32 → Mm → Option (Int32 × Mm)} (h : Cl1 k m X Y) : ∃ m2, Inv (k + 1) m2 ∧ (bd (X m) fun r1 m1 => lt9 r1 fun x1 => gd (okO m1 49 12) (bd (Y m1) fun r2 m3 => lt9 r2 fun x2 => gd (okO m3 49 12) (bd (F_X12_thrown 49 m3) fun r4 m5 => if r4 = x1 then (jn (fun (v1 : Nat) (v2 : Nat) (v3 : Nat) (v4 : Int32) (m : Mm) => J v1 v2 v3 v4 m) fun J6 => if x1 = 0 then (gd (okA m5 101 497 (0 : Int32)) (if (lg_cmp (rL m5 497 (ix (0 : Int32))) (x2.toInt64)) = 0 then (J6 0 49 497 v4 m5) else none)) else (J6 0 49 497 v4 m5)) else none))) = J 0 49 497 v4 m2 := by
  obtain ⟨c, m1, v, m2, x1, g1, y1, g2, e0, e1, i2⟩ := h
  refine ⟨m2, i2, ?_⟩
  rw [bdE x1, lt9_e, gO49 g1, gd_t, bdE y1, lt9_e, gO49 g2, gd_t, bdE (thr_e g2 e0), if_pos rfl, jn_e]
  by_cases hc : c = 0
  · have o : okA m2 101 497 0 = true := gK497 g2 (i := 0) (by omega)
    rw [if_pos hc, o, gd_t, show ix (0 : Int32) = 0 from by decide, e1 hc, if_pos (lg_self _)]
  · rw [if_neg hc]
theorem br2 {X : Mm → Option (Int32 × Mm)} {Y : Mm → Option (Int64 × Mm)} {k : Nat} {m : Mm} {v4 : Int32} {J : Nat → Nat → Nat → Int32 → Mm → Option (Int32 × Mm)} (h : Cl2 k m X Y) : ∃ m2, Inv (k + 1) m2 ∧ (bd (X m) fun r1 m1 => lt9 r1 fun x1 => gd (okO m1 49 12) (bd (Y m1) fun r2 m3 => lt9 r2 fun x2 => gd (okO m3 49 12) (bd (F_X12_thrown 49 m3) fun r4 m5 => if r4 = x1 then (jn (fun (v1 : Nat) (v2 : Nat) (v3 : Nat) (v4 : Int32) (m : Mm) => J v1 v2 v3 v4 m) fun J6 => if x1 = 0 then (gd (okA m5 101 497 (0 : Int32)) (if (lg_cmp (rL m5 497 (ix (0 : Int32))) x2) = 0 then (J6 0 49 497 v4 m5) else none)) else (J6 0 49 497 v4 m5)) else none))) = J 0 49 497 v4 m2 := by
  obtain ⟨c, m1, v, m2, x1, g1, y1, g2, e0, e1, i2⟩ := h
  refine ⟨m2, i2, ?_⟩
  rw [bdE x1, lt9_e, gO49 g1, gd_t, bdE y1, lt9_e, gO49 g2, gd_t, bdE (thr_e g2 e0), if_pos rfl, jn_e]
  by_cases hc : c = 0
  · have o : okA m2 101 497 0 = true := gK497 g2 (i := 0) (by omega)
    rw [if_pos hc, o, gd_t, show ix (0 : Int32) = 0 from by decide, e1 hc, if_pos (lg_self _)]
  · rw [if_neg hc]
theorem jnE {α κ : Type} {k : κ} {f : κ → Option α} {P : Option α → Prop} (h : ∀ J, J = k → P (f J)) : P (jn k f) := by
  rw [jn_e]
  exact h k rfl
theorem lw_c {L k : Nat} (hL : L ≤ 3584) (hk : 7 * k ≤ 3584) : (Int32.ofNat L - 7 < ni (7 * k)) ↔ L < 7 * k + 7 := by
  show ni L - 7 < ni (7 * k) ↔ _
  by_cases h : 7 ≤ L
  · rw [show (7 : Int32) = ni 7 from rfl, ni_sub h, ni_lt (by omega) (by omega)]
    omega
  · have z : ∀ L, L < 7 → (ni L - 7).toInt < 0 := by decide
    have z1 := z L (by omega)
    rw [Int32.lt_iff_toInt_lt, ni_toInt (by omega)]
    constructor
    · intro _
      omega
    · intro _
      omega
theorem Inv_up {k : Nat} {m : Mm} (hk : k ≤ 600) (h : Inv k m) : Inv (k + 1) m := by
  obtain ⟨n, l, len, cs, bk, y, t, pl, rf, ru, pk, ik, jk, ct, hC, hR, p, h1, h2⟩ := h
  exact ⟨n, l, len, cs, bk, y, t, pl, rf, ru, pk, ik, jk, ct, hC, hR, IP_B p (by omega) (by omega), by omega, by omega⟩
/-- what a call leaves, the loop goes on from -/
def LwE (E : Option (Int32 × Mm)) : Prop := ∃ m' k', E = some (1, m') ∧ Inv k' m' ∧ k' ≤ 512
theorem lw_no {c : Prop} [Decidable c] {x y : Option (Int32 × Mm)} (h : ¬ c) (e : LwE y) : LwE (if c then x else y) := by rw [if_neg h]; exact e
theorem lw_yes {c : Prop} [Decidable c] {x y : Option (Int32 × Mm)} (h : c) (e : LwE x) : LwE (if c then x else y) := by rw [if_pos h]; exact e
theorem lw_gd {b : Bool} {x : Option (Int32 × Mm)} (h : b = true) (e : LwE x) : LwE (gd b x) := by rw [h, gd_t]; exact e
set_option maxRecDepth 100000 in
set_option maxHeartbeats 4000000 in
theorem lw_go {L : Nat} {xs : Nat → Int32} (hL : L ≤ 3584) : ∀ (d k fuel : Nat) (m : Mm), L ≤ 7 * k + 7 * d → d < fuel → 7 * k ≤ L → Inv k m → LwE (L_L_law__23 L xs fuel 0 49 497 (ni (7 * k)) m) := by
  intro d
  induction d with
  | zero =>
    intro k fuel m h1 hf h2 h
    obtain ⟨fuel, rfl⟩ : ∃ z, fuel = z + 1 := ⟨fuel - 1, by omega⟩
    rw [L_L_law__23]
    exact lw_yes ((lw_c hL (by omega)).mpr (by omega)) ⟨m, k, rfl, h, by omega⟩
  | succ d ih =>
    intro k fuel m h1 hf h2 h
    obtain ⟨fuel, rfl⟩ : ∃ z, fuel = z + 1 := ⟨fuel - 1, by omega⟩
    rw [L_L_law__23]
    by_cases hc : L < 7 * k + 7
    · exact lw_yes ((lw_c hL (by omega)).mpr hc) ⟨m, k, rfl, h, by omega⟩
    · refine lw_no (fun z => hc ((lw_c hL (by omega)).mp z)) ?_
      have hk : k ≤ 600 := by omega
      have g : G m := by
        obtain ⟨n, l, len, cs, bk, y, t, pl, rf, ru, pk, ik, jk, ct, hC, hR, p, h1, h2⟩ := h
        exact hC.1
      have gx : ∀ j, j < 7 → decide (0 ≤ (ni (7 * k + j)).toInt ∧ (ni (7 * k + j)).toInt < (L : Int)) = true := fun j hj => decide_eq_true (by
        rw [ni_toInt (by omega)]
        omega)
      have gx0 : decide (0 ≤ (ni (7 * k)).toInt ∧ (ni (7 * k)).toInt < (L : Int)) = true := gx 0 (by omega)
      have ax : ∀ j : Nat, ni (7 * k) + ni j = ni (7 * k + j) := fun j => ni_add _ j

      have gx1 : decide (0 ≤ (ni (7 * k) + (1 : Int32)).toInt ∧ (ni (7 * k) + (1 : Int32)).toInt < (L : Int)) = true := by rw [show (1 : Int32) = ni 1 from rfl, ax]; exact gx 1 (by omega)
      have gx2 : decide (0 ≤ (ni (7 * k) + (2 : Int32)).toInt ∧ (ni (7 * k) + (2 : Int32)).toInt < (L : Int)) = true := by rw [show (2 : Int32) = ni 2 from rfl, ax]; exact gx 2 (by omega)
      have gx3 : decide (0 ≤ (ni (7 * k) + (3 : Int32)).toInt ∧ (ni (7 * k) + (3 : Int32)).toInt < (L : Int)) = true := by rw [show (3 : Int32) = ni 3 from rfl, ax]; exact gx 3 (by omega)
      have gx4 : decide (0 ≤ (ni (7 * k) + (4 : Int32)).toInt ∧ (ni (7 * k) + (4 : Int32)).toInt < (L : Int)) = true := by rw [show (4 : Int32) = ni 4 from rfl, ax]; exact gx 4 (by omega)
      have gx5 : decide (0 ≤ (ni (7 * k) + (5 : Int32)).toInt ∧ (ni (7 * k) + (5 : Int32)).toInt < (L : Int)) = true := by rw [show (5 : Int32) = ni 5 from rfl, ax]; exact gx 5 (by omega)
      have gx6 : decide (0 ≤ (ni (7 * k) + (6 : Int32)).toInt ∧ (ni (7 * k) + (6 : Int32)).toInt < (L : Int)) = true := by rw [show (6 : Int32) = ni 6 from rfl, ax]; exact gx 6 (by omega)
      refine lw_gd gx0 ?_
      refine jnE (P := LwE) (fun J hJ => ?_)
      have fin : ∀ {E : Option (Int32 × Mm)}, (∃ m2, Inv (k + 1) m2 ∧ E = J 0 49 497 (ni (7 * k)) m2) → LwE E := by
        rintro E ⟨m2, i2, e2⟩
        obtain ⟨m', k', z1, z2, z3⟩ := ih (k + 1) fuel m2 (by omega) (by omega) (by omega) i2
        refine ⟨m', k', ?_, z2, z3⟩
        rw [e2, hJ, ← z1]
        show lt9 (ni (7 * k) + 7) _ = _
        rw [lt9_e, show (7 : Int32) = ni 7 from rfl, ax, show 7 * k + 7 = 7 * (k + 1) by omega]
      have fin0 : LwE (J 0 49 497 (ni (7 * k)) m) := fin ⟨m, Inv_up hk h, rfl⟩
      clear hJ
      generalize xs (ix (ni (7 * k))) &&& 63 = z
      by_cases h0 : z = 0
      · refine lw_yes h0 ?_
        try simp only [gx1, gx2, gx3, gx4, gx5, gx6, gd_t]
        exact fin (br0 g (D_feed hk h))
      refine lw_no h0 ?_
      by_cases h1 : z = 1
      · refine lw_yes h1 ?_
        try simp only [gx1, gx2, gx3, gx4, gx5, gx6, gd_t]
        exact fin (br1 (D_group hk h))
      refine lw_no h1 ?_
      by_cases h2 : z = 2
      · refine lw_yes h2 ?_
        try simp only [gx1, gx2, gx3, gx4, gx5, gx6, gd_t]
        exact fin (br1 (D_law hk h))
      refine lw_no h2 ?_
      by_cases h3 : z = 3
      · refine lw_yes h3 ?_
        try simp only [gx1, gx2, gx3, gx4, gx5, gx6, gd_t]
        exact fin (br1 (D_work hk h))
      refine lw_no h3 ?_
      by_cases h4 : z = 4
      · refine lw_yes h4 ?_
        try simp only [gx1, gx2, gx3, gx4, gx5, gx6, gd_t]
        exact fin (br1 (D_book hk h))
      refine lw_no h4 ?_
      by_cases h5 : z = 5
      · refine lw_yes h5 ?_
        try simp only [gx1, gx2, gx3, gx4, gx5, gx6, gd_t]
        exact fin (br0 g (D_fault hk h))
      refine lw_no h5 ?_
      by_cases h6 : z = 6
      · refine lw_yes h6 ?_
        try simp only [gx1, gx2, gx3, gx4, gx5, gx6, gd_t]
        exact fin (br0 g (D_undo hk h))
      refine lw_no h6 ?_
      by_cases h7 : z = 7
      · refine lw_yes h7 ?_
        try simp only [gx1, gx2, gx3, gx4, gx5, gx6, gd_t]
        exact fin (br1 (D_told hk h))
      refine lw_no h7 ?_
      by_cases h8 : z = 8
      · refine lw_yes h8 ?_
        try simp only [gx1, gx2, gx3, gx4, gx5, gx6, gd_t]
        exact fin (br1 (D_member hk h))
      refine lw_no h8 ?_
      by_cases h9 : z = 9
      · refine lw_yes h9 ?_
        try simp only [gx1, gx2, gx3, gx4, gx5, gx6, gd_t]
        exact fin (br2 (D_tally hk h))
      refine lw_no h9 ?_
      by_cases h10 : z = 10
      · refine lw_yes h10 ?_
        try simp only [gx1, gx2, gx3, gx4, gx5, gx6, gd_t]
        exact fin (br2 (D_log hk h))
      refine lw_no h10 ?_
      by_cases h11 : z = 11
      · refine lw_yes h11 ?_
        try simp only [gx1, gx2, gx3, gx4, gx5, gx6, gd_t]
        exact fin (br1 (D_message hk h))
      refine lw_no h11 ?_
      by_cases h12 : z = 12
      · refine lw_yes h12 ?_
        try simp only [gx1, gx2, gx3, gx4, gx5, gx6, gd_t]
        exact fin (br1 (D_knows hk h))
      refine lw_no h12 ?_
      by_cases h13 : z = 13
      · refine lw_yes h13 ?_
        try simp only [gx1, gx2, gx3, gx4, gx5, gx6, gd_t]
        exact fin (br1 (D_stable hk h))
      refine lw_no h13 ?_
      by_cases h14 : z = 14
      · refine lw_yes h14 ?_
        try simp only [gx1, gx2, gx3, gx4, gx5, gx6, gd_t]
        exact fin (br1 (D_would hk h))
      refine lw_no h14 ?_
      by_cases h15 : z = 15
      · refine lw_yes h15 ?_
        try simp only [gx1, gx2, gx3, gx4, gx5, gx6, gd_t]
        exact fin (br0 g (D_primary hk h))
      refine lw_no h15 ?_
      by_cases h16 : z = 16
      · refine lw_yes h16 ?_
        try simp only [gx1, gx2, gx3, gx4, gx5, gx6, gd_t]
        exact fin (br1 (D_missing hk h))
      refine lw_no h16 ?_
      by_cases h17 : z = 17
      · refine lw_yes h17 ?_
        try simp only [gx1, gx2, gx3, gx4, gx5, gx6, gd_t]
        exact fin (br0 g (D_lost hk h))
      refine lw_no h17 ?_
      by_cases h18 : z = 18
      · refine lw_yes h18 ?_
        try simp only [gx1, gx2, gx3, gx4, gx5, gx6, gd_t]
        exact fin (br0 g (D_fall hk h))
      refine lw_no h18 ?_
      by_cases h19 : z = 19
      · refine lw_yes h19 ?_
        try simp only [gx1, gx2, gx3, gx4, gx5, gx6, gd_t]
        exact fin (br0 g (D_splits hk h))
      refine lw_no h19 ?_
      by_cases h20 : z = 20
      · refine lw_yes h20 ?_
        try simp only [gx1, gx2, gx3, gx4, gx5, gx6, gd_t]
        exact fin (br0 g (D_tells hk h))
      refine lw_no h20 ?_
      by_cases h21 : z = 21
      · refine lw_yes h21 ?_
        try simp only [gx1, gx2, gx3, gx4, gx5, gx6, gd_t]
        exact fin (br1 (D_next hk h))
      refine lw_no h21 ?_
      by_cases h22 : z = 22
      · refine lw_yes h22 ?_
        try simp only [gx1, gx2, gx3, gx4, gx5, gx6, gd_t]
        exact fin (br1 (D_held hk h))
      refine lw_no h22 ?_
      by_cases h23 : z = 23
      · refine lw_yes h23 ?_
        try simp only [gx1, gx2, gx3, gx4, gx5, gx6, gd_t]
        exact fin (br0 g (D_agree hk h))
      refine lw_no h23 ?_
      by_cases h24 : z = 24
      · refine lw_yes h24 ?_
        try simp only [gx1, gx2, gx3, gx4, gx5, gx6, gd_t]
        exact fin (br1 (D_fits hk h))
      refine lw_no h24 ?_
      by_cases h25 : z = 25
      · refine lw_yes h25 ?_
        try simp only [gx1, gx2, gx3, gx4, gx5, gx6, gd_t]
        exact fin (br1 (D_look hk h))
      refine lw_no h25 ?_
      by_cases h26 : z = 26
      · refine lw_yes h26 ?_
        try simp only [gx1, gx2, gx3, gx4, gx5, gx6, gd_t]
        exact fin (br0 g (D_note hk h))
      refine lw_no h26 ?_
      by_cases h27 : z = 27
      · refine lw_yes h27 ?_
        try simp only [gx1, gx2, gx3, gx4, gx5, gx6, gd_t]
        exact fin (br1 (D_spelt hk h))
      refine lw_no h27 ?_
      by_cases h28 : z = 28
      · refine lw_yes h28 ?_
        try simp only [gx1, gx2, gx3, gx4, gx5, gx6, gd_t]
        exact fin (br1 (D_lore hk h))
      refine lw_no h28 ?_
      by_cases h29 : z = 29
      · refine lw_yes h29 ?_
        try simp only [gx1, gx2, gx3, gx4, gx5, gx6, gd_t]
        exact fin (br1 (D_behind hk h))
      refine lw_no h29 ?_
      by_cases h30 : z = 30
      · refine lw_yes h30 ?_
        try simp only [gx1, gx2, gx3, gx4, gx5, gx6, gd_t]
        exact fin (br1 (D_storm hk h))
      refine lw_no h30 ?_
      by_cases h31 : z = 31
      · refine lw_yes h31 ?_
        try simp only [gx1, gx2, gx3, gx4, gx5, gx6, gd_t]
        exact fin (br1 (D_span hk h))
      refine lw_no h31 ?_
      by_cases h32 : z = 32
      · refine lw_yes h32 ?_
        try simp only [gx1, gx2, gx3, gx4, gx5, gx6, gd_t]
        exact fin (br0 g (D_image hk h))
      refine lw_no h32 ?_
      by_cases h33 : z = 33
      · refine lw_yes h33 ?_
        try simp only [gx1, gx2, gx3, gx4, gx5, gx6, gd_t]
        exact fin (br0 g (D_restore hk h))
      refine lw_no h33 ?_
      by_cases h34 : z = 34
      · refine lw_yes h34 ?_
        try simp only [gx1, gx2, gx3, gx4, gx5, gx6, gd_t]
        exact fin (br0 g (D_status hk h))
      refine lw_no h34 ?_
      by_cases h35 : z = 35
      · refine lw_yes h35 ?_
        try simp only [gx1, gx2, gx3, gx4, gx5, gx6, gd_t]
        exact fin (br0 g (D_count hk h))
      refine lw_no h35 ?_
      exact fin0
