/-! L2: what is kept of a State is kept by its methods; deliver and flush. -/
theorem bel_bit {a n : Nat} (h : a < n) (h2 : a < 32) : bel n (bit a) := fun k hk => by
  unfold bit
  rw [tb_bit h2]
  have : ¬ k = a := by omega
  simp [this]
theorem WF_got {n B a : Nat} {v : Int32} {σ : St} (h : WF n B σ) (hv : bel (mc σ) v) (ha : a < n) : WF n B (tI σ 2 a v) := by
  obtain ⟨h0, ⟨h1, h2, h3, h4, h5, h6, h7, h8, h9, h10, h11⟩, hB⟩ := h
  refine ⟨h0, ⟨h1, fun i hi => ?_, h3, h4, h5, h6, h7, h8, h9, h10, fun i h1 h2 => ?_⟩, hB⟩
  · rw [gI_tI]
    split
    · exact hv
    · exact h2 i hi
  · obtain ⟨q1, q2, q3⟩ := h11 i h1 h2
    refine ⟨?_, q2, q3⟩
    rw [gI_tI, if_neg (by omega)]
    exact q1
theorem WF_kee {n B a : Nat} {v : Int32} {σ : St} (h : WF n B σ) (hv : bel (mc σ) v) (ha : a < n) : WF n B (tI σ 3 a v) := by
  obtain ⟨h0, ⟨h1, h2, h3, h4, h5, h6, h7, h8, h9, h10, h11⟩, hB⟩ := h
  refine ⟨h0, ⟨h1, h2, fun i hi => ?_, h4, h5, h6, h7, h8, h9, h10, fun i h1 h2 => ?_⟩, hB⟩
  · rw [gI_tI]
    split
    · exact hv
    · exact h3 i hi
  · obtain ⟨q1, q2, q3⟩ := h11 i h1 h2
    refine ⟨q1, ?_, q3⟩
    rw [gI_tI, if_neg (by omega)]
    exact q2
theorem WF_lor {n B a b : Nat} {v : Int32} {σ : St} (h : WF n B σ) (hv : bel (mc σ) v) (ha : a < n) (hb : b < 6) : WF n B (tI σ 4 (a * 6 + b) v) := by
  obtain ⟨h0, ⟨h1, h2, h3, h4, h5, h6, h7, h8, h9, h10, h11⟩, hB⟩ := h
  refine ⟨h0, ⟨h1, h2, h3, fun i hi => ?_, h5, h6, h7, h8, h9, h10, fun i h1 h2 => ?_⟩, hB⟩
  · rw [gI_tI]
    split
    · exact hv
    · exact h4 i hi
  · obtain ⟨q1, q2, q3⟩ := h11 i h1 h2
    refine ⟨q1, q2, fun j hj => ?_⟩
    rw [gI_tI, if_neg (by omega)]
    exact q3 j hj
theorem WF_ent {n B a e : Nat} {σ : St} (h : WF n B σ) (he : e ≤ 64) (hg : 0 < gI σ 1 a) : WF n B (tI σ 7 a (ni e)) := by
  obtain ⟨h0, ⟨h1, h2, h3, h4, h5, h6, h7, h8, h9, h10, h11⟩, hB⟩ := h
  refine ⟨h0, ⟨h1, h2, h3, h4, h5, h6, h7, h8, fun i hi => ?_, ?_, h11⟩, hB⟩
  · rw [gI_tI]
    split
    · exact ⟨e, he, rfl⟩
    · exact h9 i hi
  · obtain ⟨b, b1, b2, b3, b4⟩ := h10
    refine ⟨b, b1, b2, b3, fun i hi => ?_⟩
    obtain ⟨g, g1, g2, g3, g4⟩ := b4 i hi
    refine ⟨g, g1, g2, g3, fun g0 => ?_⟩
    rw [gI_tI]
    by_cases e1 : i = a
    · subst e1
      rw [g2, g0] at hg
      exact absurd hg (by decide)
    · rw [if_neg (by omega)]
      exact g4 g0
theorem WF_way {n B k : Nat} {v : Int32} {σ : St} (h : WF n B σ) (hv : sbs v (gI σ 0 2)) (hk : mc σ ≤ k → v = 0) : WF n B (tI σ 10 k v) := by
  obtain ⟨h0, ⟨h1, h2, h3, h4, h5, h6, h7, h8, h9, h10, h11⟩, hB⟩ := h
  refine ⟨h0, ⟨h1, h2, h3, h4, fun i hi => ?_, fun i hi hm => ?_, h7, h8, h9, h10, h11⟩, hB⟩
  · rw [gI_tI]
    split
    · exact hv
    · exact h5 i hi
  · rw [gI_tI]
    split
    · next e => exact hk (by rw [← e.2]; exact hm)
    · exact h6 i hi hm
theorem bit_bel {k d : Nat} (h : k < d) (h2 : k < 32) : bel d (bit k) := bel_bit h h2
theorem WF_deliver {n B a k : Nat} {σ : St} (h : WF n B σ) (ha : a < n) (hk : k < mc σ) (hl : Lg σ a) : WF n B (deliver σ a k) := by
  rw [deliver_log hl]
  have h30 := WF_30 h
  have hn := WF_6 h
  have hb : bel (mc σ) (bit k) := bit_bel hk (by omega)
  obtain ⟨hg, e, he, hx⟩ := hl
  have w1 := WF_got (v := gI σ 2 a ||| bit k) h (bel_or (h.2.1.2.1 a (by omega)) hb) ha
  have w2 := WF_kee (v := gI σ 3 a ||| bit k) w1 (bel_or (h.2.1.2.2.1 a (by omega)) hb) ha
  have w3 := WF_lor (b := a) (v := gI σ 4 (a * 6 + a) ||| bit k) w2 (bel_or (h.2.1.2.2.2.1 _ (by omega)) hb) ha (by omega)
  unfold logS
  split
  · exact w3
  · next h6 =>
    have hx' : gI (tL (tI (tI (tI σ 2 a (gI σ 2 a ||| bit k)) 3 a (gI σ 3 a ||| bit k)) 4 (a * 6 + a) (gI σ 4 (a * 6 + a) ||| bit k)) 11 a (gL σ 11 a + worth σ k)) 7 a = ni e := hx
    rw [hx'] at h6 ⊢
    have he2 : e < 64 := by
      rw [show (64 : Int32) = ni 64 from rfl, ni_le (by omega) (by omega)] at h6
      omega
    rw [show ni e + 1 = ni (e + 1) from ni_add e 1]
    exact WF_ent (e := e + 1) w3 (by omega) hg
def entI (e : Int32) : Int32 := if e < 0 then e else if 64 ≤ e then e else e + 1
theorem gI_del (σ : St) (a k b j : Nat) : gI (deliver σ a k) b j = if b = 7 ∧ j = a then entI (gI σ 7 a) else if b = 4 ∧ j = a * 6 + a then gI σ 4 (a * 6 + a) ||| bit k else if b = 3 ∧ j = a then gI σ 3 a ||| bit k else if b = 2 ∧ j = a then gI σ 2 a ||| bit k else gI σ b j := by
  have hz : ∀ v : Int32, v = gI σ 7 a → (if b = 4 ∧ j = a * 6 + a then gI σ 4 (a * 6 + a) ||| bit k else if b = 3 ∧ j = a then gI σ 3 a ||| bit k else if b = 2 ∧ j = a then gI σ 2 a ||| bit k else gI σ b j) = if b = 7 ∧ j = a then v else if b = 4 ∧ j = a * 6 + a then gI σ 4 (a * 6 + a) ||| bit k else if b = 3 ∧ j = a then gI σ 3 a ||| bit k else if b = 2 ∧ j = a then gI σ 2 a ||| bit k else gI σ b j := by
    intro v hv
    by_cases e : b = 7 ∧ j = a
    · rw [if_pos e, if_neg (by omega), if_neg (by omega), if_neg (by omega), hv, e.1, e.2]
    · rw [if_neg e]
  unfold deliver entI
  dsimp only
  by_cases h1 : gI σ 7 a < 0
  · rw [if_pos h1, if_pos h1]
    exact hz _ rfl
  · rw [if_neg h1, if_neg h1]
    by_cases h2 : (64 : Int32) ≤ gI σ 7 a
    · rw [if_pos h2, if_pos h2]
      exact hz _ rfl
    · rw [if_neg h2, if_neg h2]
      rfl
theorem gL_del (σ : St) (a k b j : Nat) : gL (deliver σ a k) b j = if (¬ gI σ 7 a < 0 ∧ ¬ 64 ≤ gI σ 7 a) ∧ b = 12 ∧ j = a * 64 + ix (gI σ 7 a) then gL σ 11 a + worth σ k else if b = 11 ∧ j = a then gL σ 11 a + worth σ k else gL σ b j := by
  unfold deliver
  dsimp only
  by_cases h1 : gI σ 7 a < 0
  · rw [if_pos h1, if_neg (fun q => q.1.1 h1)]
    rfl
  · rw [if_neg h1]
    by_cases h2 : (64 : Int32) ≤ gI σ 7 a
    · rw [if_pos h2, if_neg (fun q => q.1.2 h2)]
      rfl
    · rw [if_neg h2]
      simp only [gL_tI, gL_tL, h1, h2, not_false_eq_true, and_self, true_and]
theorem Lg_del {σ : St} {a c k : Nat} (h : Lg σ c) : Lg (deliver σ a k) c := by
  obtain ⟨hg, e, he, hx⟩ := h
  refine ⟨?_, ?_⟩
  · rw [gI_del, if_neg (by omega), if_neg (by omega), if_neg (by omega), if_neg (by omega)]
    exact hg
  · rw [gI_del]
    by_cases e1 : 7 = 7 ∧ c = a
    · rw [if_pos e1, ← e1.2, hx, entI]
      by_cases e2 : 64 ≤ e
      · exact ⟨e, he, by simp (disch := first | omega | decide) only [ni_lt0, lni_le, e2, if_true, if_false]⟩
      · exact ⟨e + 1, by omega, by simp (disch := first | omega | decide) only [ni_lt0, lni_le, e2, if_true, if_false, nil_add]⟩
    · rw [if_neg e1, if_neg (by omega), if_neg (by omega), if_neg (by omega)]
      exact ⟨e, he, hx⟩
/-! loops of which each turn has cells of its own -/
def Ag (ow owL : Nat → Nat → Nat) (i : Nat) (σ τ : St) : Prop := (∀ b j, ow b j = i ∨ ow b j = 99 → gI σ b j = gI τ b j) ∧ (∀ b j, owL b j = i ∨ owL b j = 99 → gL σ b j = gL τ b j)
def Loc (ow owL : Nat → Nat → Nat) (N : Nat) (f : Nat → St → St) : Prop :=
  (∀ i σ, i < N → (∀ b j, ow b j ≠ i → ow b j ≠ 98 → gI (f i σ) b j = gI σ b j) ∧ (∀ b j, owL b j ≠ i → gL (f i σ) b j = gL σ b j)) ∧
  (∀ i σ τ, i < N → Ag ow owL i σ τ → Ag ow owL i (f i σ) (f i τ)) ∧ N ≤ 98
theorem itn_own {ow owL : Nat → Nat → Nat} {N : Nat} {f : Nat → St → St} (h : Loc ow owL N f) : ∀ (d i : Nat) (σ : St), i + d ≤ N →
    (∀ b j, ow b j ≠ 98 → gI (itn f d i σ) b j = if i ≤ ow b j ∧ ow b j < i + d then gI (f (ow b j) σ) b j else gI σ b j) ∧
    (∀ b j, gL (itn f d i σ) b j = if i ≤ owL b j ∧ owL b j < i + d then gL (f (owL b j) σ) b j else gL σ b j) := by
  obtain ⟨h1, h2, h3⟩ := h
  intro d
  induction d with
  | zero =>
    intro i σ _
    exact ⟨fun b j _ => by rw [if_neg (by omega)]; rfl, fun b j => by rw [if_neg (by omega)]; rfl⟩
  | succ d ih =>
    intro i σ hi
    obtain ⟨q1, q2⟩ := ih (i + 1) (f i σ) (by omega)
    have hag : ∀ o, o ≠ i → o < N → Ag ow owL o (f i σ) σ := fun o ho hN => ⟨fun b j hb => (h1 i σ (by omega)).1 b j (by omega) (by omega), fun b j hb => (h1 i σ (by omega)).2 b j (by omega)⟩
    refine ⟨fun b j h98 => ?_, fun b j => ?_⟩
    · show gI (itn f d (i + 1) (f i σ)) b j = _
      rw [q1 b j h98]
      by_cases e : ow b j = i
      · rw [if_neg (by omega), if_pos (by omega), e]
      · by_cases e2 : i + 1 ≤ ow b j ∧ ow b j < i + 1 + d
        · rw [if_pos e2, if_pos (by omega)]
          exact (h2 (ow b j) (f i σ) σ (by omega) (hag _ e (by omega))).1 b j (.inl rfl)
        · rw [if_neg e2, if_neg (by omega)]
          exact (h1 i σ (by omega)).1 b j e h98
    · show gL (itn f d (i + 1) (f i σ)) b j = _
      rw [q2 b j]
      by_cases e : owL b j = i
      · rw [if_neg (by omega), if_pos (by omega), e]
      · by_cases e2 : i + 1 ≤ owL b j ∧ owL b j < i + 1 + d
        · rw [if_pos e2, if_pos (by omega)]
          exact (h2 (owL b j) (f i σ) σ (by omega) (hag _ e (by omega))).2 b j (.inl rfl)
        · rw [if_neg e2, if_neg (by omega)]
          exact (h1 i σ (by omega)).2 b j e
def six (j : Nat) : Nat := if j < 6 then j else 99
theorem six_lt {j : Nat} (h : j < 6) : six j = j := by unfold six; rw [if_pos h]
theorem six_98 (j : Nat) : six j ≠ 98 := by unfold six; split <;> omega
theorem six_6 {j : Nat} (h : six j < 6) : six j = j := by
  by_cases e : j < 6
  · exact six_lt e
  · unfold six at h
    rw [if_neg e] at h
    omega
def owI (b j : Nat) : Nat := if b = 2 ∨ b = 3 ∨ b = 7 ∨ b = 1 ∨ b = 5 then six j else if b = 4 then (if j % 7 = 0 then six (j / 7) else 99) else 99
def owL (b j : Nat) : Nat := if b = 11 then six j else if b = 12 then six (j / 64) else 99
theorem owI_98 (b j : Nat) : owI b j ≠ 98 := by
  unfold owI
  split
  · exact six_98 _
  · split
    · split
      · exact six_98 _
      · omega
    · omega
theorem owI_4 {a : Nat} (h : a < 6) : owI 4 (a * 6 + a) = a := by
  unfold owI
  rw [if_neg (by omega), if_pos rfl, if_pos (by omega), show (a * 6 + a) / 7 = a by omega, six_lt h]
theorem owI_j {b j : Nat} (h : b = 2 ∨ b = 3 ∨ b = 7 ∨ b = 1 ∨ b = 5) (hj : j < 6) : owI b j = j := by
  unfold owI
  rw [if_pos h, six_lt hj]
theorem owI_c {b j : Nat} (h : ¬ (b = 2 ∨ b = 3 ∨ b = 7 ∨ b = 1 ∨ b = 5)) (h4 : b ≠ 4) : owI b j = 99 := by
  unfold owI
  rw [if_neg h, if_neg h4]
theorem owL_11 {j : Nat} (h : j < 6) : owL 11 j = j := six_lt h
theorem owL_12 {a e : Nat} (ha : a < 6) (h : e < 64) : owL 12 (a * 64 + e) = a := by
  unfold owL
  rw [if_neg (by omega), if_pos rfl, show (a * 64 + e) / 64 = a by omega, six_lt ha]
theorem del_loc (σ : St) {a : Nat} (k : Nat) (ha : a < 6) : (∀ b j, owI b j ≠ a → gI (deliver σ a k) b j = gI σ b j) ∧ (∀ b j, owL b j ≠ a → gL (deliver σ a k) b j = gL σ b j) := by
  refine ⟨fun b j h => ?_, fun b j h => ?_⟩
  · rw [gI_del, if_neg, if_neg, if_neg, if_neg]
    · rintro ⟨rfl, rfl⟩
      exact h (owI_j (by omega) ha)
    · rintro ⟨rfl, rfl⟩
      exact h (owI_j (by omega) ha)
    · rintro ⟨rfl, rfl⟩
      exact h (owI_4 ha)
    · rintro ⟨rfl, rfl⟩
      exact h (owI_j (by omega) ha)
  · rw [gL_del, if_neg, if_neg]
    · rintro ⟨rfl, rfl⟩
      exact h (owL_11 ha)
    · rintro ⟨⟨h1, h2⟩, rfl, rfl⟩
      obtain ⟨e, he, hx⟩ := ni_of h1 (n := 64) (by omega) h2
      rw [hx, ix_ni (by omega)] at h
      exact h (owL_12 ha he)
theorem worth_ag {σ τ : St} {i k : Nat} (h : Ag owI owL i σ τ) : worth σ k = worth τ k := by
  unfold worth
  rw [h.1 9 k (.inr (owI_c (by omega) (by omega))), h.1 8 k (.inr (owI_c (by omega) (by omega)))]
theorem del_ag {σ τ : St} {a k : Nat} (ha : a < 6) (h : Ag owI owL a σ τ) : Ag owI owL a (deliver σ a k) (deliver τ a k) := by
  have e7 := h.1 7 a (.inl (owI_j (by omega) ha))
  have e4 := h.1 4 (a * 6 + a) (.inl (owI_4 ha))
  have e3 := h.1 3 a (.inl (owI_j (by omega) ha))
  have e2 := h.1 2 a (.inl (owI_j (by omega) ha))
  have eL := h.2 11 a (.inl (owL_11 ha))
  refine ⟨fun b j hb => ?_, fun b j hb => ?_⟩
  · rw [gI_del, gI_del, e7, e4, e3, e2, h.1 b j hb]
  · rw [gL_del, gL_del, e7, eL, worth_ag h, h.2 b j hb]
theorem itn_rel {α : Type} {f : Nat → α → α} {R : α → α → Prop} (hs : ∀ k a b, R a b → R (f k a) (f k b)) : ∀ (d i : Nat) (a b : α), R a b → R (itn f d i a) (itn f d i b) := by
  intro d
  induction d with
  | zero =>
    intro i a b h
    exact h
  | succ d ih =>
    intro i a b h
    exact ih (i + 1) _ _ (hs i a b h)
theorem flushM_loc (kept x : Int32) : Loc owI owL 6 (flushM kept x) := by
  refine ⟨fun i σ hi => ?_, fun i σ τ hi h => ?_, by omega⟩
  · unfold flushM
    generalize (if tb x i then kept &&& (gI σ 2 i ^^^ (-1 : Int32)) else 0) = lack
    have z := itn_inv (f := flush1 lack i) (P := fun _ τ => (∀ b j, owI b j ≠ i → gI τ b j = gI σ b j) ∧ (∀ b j, owL b j ≠ i → gL τ b j = gL σ b j)) 30 0 σ ⟨fun _ _ _ => rfl, fun _ _ _ => rfl⟩ (fun k τ _ _ hp => by
      unfold flush1
      split
      · exact ⟨fun b j hb => ((del_loc τ k hi).1 b j hb).trans (hp.1 b j hb), fun b j hb => ((del_loc τ k hi).2 b j hb).trans (hp.2 b j hb)⟩
      · exact hp)
    exact ⟨fun b j hb _ => z.1 b j hb, z.2⟩
  · unfold flushM
    rw [h.1 2 i (.inl (owI_j (by omega) hi))]
    generalize (if tb x i then kept &&& (gI τ 2 i ^^^ (-1 : Int32)) else 0) = lack
    refine itn_rel (R := Ag owI owL i) (fun k a b hab => ?_) 30 0 σ τ h
    unfold flush1
    split
    · exact del_ag hi hab
    · exact hab
theorem flush_get (σ : St) (x : Int32) : (∀ b j, gI (flush σ x) b j = if owI b j < 6 then gI (flushM (keptBy σ x) x (owI b j) σ) b j else gI σ b j) ∧ (∀ b j, gL (flush σ x) b j = if owL b j < 6 then gL (flushM (keptBy σ x) x (owL b j) σ) b j else gL σ b j) := by
  have z := itn_own (flushM_loc (keptBy σ x) x) 6 0 σ (by omega)
  refine ⟨fun b j => ?_, fun b j => ?_⟩
  · have := z.1 b j (owI_98 b j)
    unfold flush
    rw [this]
    simp only [Nat.zero_le, true_and, Nat.zero_add]
  · have := z.2 b j
    unfold flush
    rw [this]
    simp only [Nat.zero_le, true_and, Nat.zero_add]
/-- the invariant of a flush -/
theorem keptBy_bel {n B : Nat} {σ : St} (h : WF n B σ) (x : Int32) : bel (mc σ) (keptBy σ x) := by
  have z := itn_inv (f := keptF σ x) (P := fun _ a => bel (mc σ) a) 6 0 0 (bel_0 _) (fun k b _ hk hp => by
    unfold keptF
    refine bel_or hp ?_
    split
    · exact h.2.1.2.2.1 k (by omega)
    · exact bel_0 _)
  exact z
theorem WF_flushM {n B a : Nat} {σ : St} {kept x : Int32} (h : WF n B σ) (ha : a < 6) (hk : bel (mc σ) kept) (hx : tb x a = true → a < n ∧ Lg σ a) :
    WF n B (flushM kept x a σ) ∧ mc (flushM kept x a σ) = mc σ ∧ (∀ c, Lg σ c → Lg (flushM kept x a σ) c) := by
  unfold flushM
  cases e : tb x a
  · simp only [reduceCtorEq, if_false]
    rw [itn_id]
    · exact ⟨h, rfl, fun _ q => q⟩
    · intro k _ _
      unfold flush1
      rw [tb_0]
      simp
  · simp only [if_true]
    have h30 := WF_30 h
    have hl : bel (mc σ) (kept &&& (gI σ 2 a ^^^ (-1 : Int32))) := bel_and hk
    generalize kept &&& (gI σ 2 a ^^^ (-1 : Int32)) = lack at hl
    have z := itn_inv (f := flush1 lack a) (P := fun _ τ => WF n B τ ∧ mc τ = mc σ ∧ (∀ c, Lg σ c → Lg τ c)) 30 0 σ ⟨h, rfl, fun _ q => q⟩ (fun k τ _ hk2 hp => by
      obtain ⟨p1, p2, p3⟩ := hp
      unfold flush1
      split
      · next hb =>
        have hkm : k < mc τ := by
          rw [p2]
          by_cases q : k < mc σ
          · exact q
          · rw [hl k (by omega)] at hb
            cases hb
        refine ⟨WF_deliver p1 (hx e).1 hkm (p3 a (hx e).2), ?_, fun c q => Lg_del (p3 c q)⟩
        rw [← p2]
        unfold mc
        rw [gI_del, if_neg (by omega), if_neg (by omega), if_neg (by omega), if_neg (by omega)]
      · exact ⟨p1, p2, p3⟩)
    exact z
theorem WF_flush {n B : Nat} {σ : St} {x : Int32} (h : WF n B σ) (hx : ∀ a, a < 6 → tb x a = true → a < n ∧ Lg σ a) : WF n B (flush σ x) ∧ mc (flush σ x) = mc σ ∧ (∀ c, Lg σ c → Lg (flush σ x) c) := by
  have hk := keptBy_bel h x
  unfold flush
  generalize keptBy σ x = kept at hk
  have z := itn_inv (f := flushM kept x) (P := fun _ τ => WF n B τ ∧ mc τ = mc σ ∧ (∀ c, Lg σ c → Lg τ c)) 6 0 σ ⟨h, rfl, fun _ q => q⟩ (fun k τ _ hk2 hp => by
    obtain ⟨p1, p2, p3⟩ := hp
    obtain ⟨q1, q2, q3⟩ := WF_flushM (a := k) (x := x) p1 (by omega) (by rw [p2]; exact hk) (fun e => ⟨(hx k (by omega) e).1, p3 k (hx k (by omega) e).2⟩)
    exact ⟨q1, q2.trans p2, fun c q => q3 c (p3 c q)⟩)
  exact z
