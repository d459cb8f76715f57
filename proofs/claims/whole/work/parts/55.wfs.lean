/-! L2: the State's methods keep what is kept. -/
theorem WF_B {n B B' : Nat} {σ : St} (h : WF n B σ) (hB : B ≤ B') (hM : B' < 1000000) : WF n B' σ := by
  obtain ⟨h0, ⟨h1, h2, h3, h4, h5, h6, h7, h8, h9, ⟨b, b1, b2, b3⟩, h11⟩, hB1⟩ := h
  exact ⟨h0, ⟨h1, h2, h3, h4, h5, h6, h7, h8, h9, ⟨b, b1, by omega, b3⟩, h11⟩, hM⟩
theorem st_in {σ : St} {a : Nat} (h : stands σ a = true) : tb (gI σ 0 2) a = true ∧ tb (gI σ 0 3) a = true := by
  unfold stands standing at h
  rw [tb_and] at h
  simp at h
  exact ⟨h.2, h.1⟩
theorem WF_msg {n B a : Nat} {w y : Int32} {σ : St} (h : WF n B σ) (ha : a < n) (hk : mc σ < 30) (hy : sbs y (gI σ 0 2)) : WF n B (tI (tI (tI (tI σ 0 7 (ni (mc σ + 1))) 8 (mc σ) (ni a)) 9 (mc σ) w) 10 (mc σ) y) := by
  obtain ⟨h0, ⟨h1, h2, h3, h4, h5, h6, h7, h8, h9, h10, h11⟩, hB⟩ := h
  have e : mc (tI (tI (tI (tI σ 0 7 (ni (mc σ + 1))) 8 (mc σ) (ni a)) 9 (mc σ) w) 10 (mc σ) y) = mc σ + 1 := by
    show ix (ni (mc σ + 1)) = _
    rw [ix_ni (by omega)]
  refine ⟨h0, ⟨?_, fun i hi => ?_, fun i hi => ?_, fun i hi => ?_, fun i hi => ?_, fun i hi hm => ?_, fun i hi => ?_, h8, h9, h10, h11⟩, hB⟩
  · rw [e]
    exact ⟨rfl, by omega⟩
  · rw [e]
    exact bel_mono (by omega) (h2 i hi)
  · rw [e]
    exact bel_mono (by omega) (h3 i hi)
  · rw [e]
    exact bel_mono (by omega) (h4 i hi)
  · rw [gI_tI]
    split
    · exact hy
    · exact h5 i hi
  · rw [e] at hm
    rw [gI_tI, if_neg (by omega)]
    exact h6 i hi (by omega)
  · rw [e] at hi
    by_cases q : i = mc σ
    · refine ⟨a, ha, ?_⟩
      rw [gI_tI, if_neg (by omega), gI_tI, if_neg (by omega), gI_tI, if_pos ⟨rfl, q⟩]
    · obtain ⟨a', ha', ea⟩ := h7 i (by omega)
      refine ⟨a', ha', ?_⟩
      rw [gI_tI, if_neg (by omega), gI_tI, if_neg (by omega), gI_tI, if_neg (by omega)]
      exact ea
theorem post_eq {n B a l : Nat} {w : Int32} {σ : St} (h : WF n B σ) (hl : l ≤ 30) : post σ a w (ni l) = if mc σ < l then (true, deliver (tI (tI (tI (tI σ 0 7 (ni (mc σ + 1))) 8 (mc σ) (ni a)) 9 (mc σ) w) 10 (mc σ) (standing σ &&& (bit a ^^^ (-1 : Int32)))) a (mc σ)) else (false, σ) := by
  have h30 := WF_30 h
  have hmc := WF_mc h
  unfold post
  rw [hmc, ix_ni (by omega)]
  simp (disch := first | omega | decide) only [ni_le, ni_lt0, nil_lt, nil_add, if_false, Nat.not_lt_zero]
  by_cases q : mc σ < l
  · rw [if_neg (by omega), if_pos (show mc σ < 30 by omega), if_pos q]
  · rw [if_pos (by omega), if_neg q]
theorem WF_post {n B a l : Nat} {w : Int32} {σ : St} (h : WF n B σ) (hl : l ≤ 30) (hs : stands σ a = true) : WF n B (post σ a w (ni l)).2 := by
  rw [post_eq h hl]
  have ha := st_n h hs
  have hn := WF_6 h
  split
  · next q =>
    have hy : sbs (standing σ &&& (bit a ^^^ (-1 : Int32))) (gI σ 0 2) := fun k hk => by
      rw [tb_and] at hk
      simp at hk
      unfold standing at hk
      rw [tb_and] at hk
      simp at hk
      exact hk.1.2
    refine WF_deliver (WF_msg h ha (by omega) hy) ha ?_ (by have z := WF_lg h (by omega) hs; exact z)
    show mc σ < ix (ni (mc σ + 1))
    rw [ix_ni (by omega)]
    omega
  · exact h
theorem WF_keep {n B a e i : Nat} {w : Int32} {σ : St} (h : WF n B σ) (he : e < 8) (hi : tb (gI σ 0 2) a = true) : WF n B (tI (tI σ 6 i w) 5 a (ni (e + 1))) := by
  obtain ⟨h0, ⟨h1, h2, h3, h4, h5, h6, h7, h8, h9, h10, h11⟩, hB⟩ := h
  refine ⟨h0, ⟨h1, h2, h3, h4, h5, h6, h7, fun j hj => ?_, h9, h10, h11⟩, hB⟩
  rw [gI_tI]
  split
  · next q =>
    refine ⟨e + 1, by omega, rfl, fun _ => ?_⟩
    rw [q.2]
    exact hi
  · exact h8 j hj
theorem WF_held0 {n B a : Nat} {σ : St} (h : WF n B σ) : WF n B (tI σ 5 a 0) := by
  obtain ⟨h0, ⟨h1, h2, h3, h4, h5, h6, h7, h8, h9, h10, h11⟩, hB⟩ := h
  refine ⟨h0, ⟨h1, h2, h3, h4, h5, h6, h7, fun j hj => ?_, h9, h10, h11⟩, hB⟩
  rw [gI_tI]
  split
  · exact ⟨0, by omega, rfl, fun q => by omega⟩
  · exact h8 j hj
theorem WF_send {n B a l : Nat} {w : Int32} {σ : St} (h : WF n B σ) (hl : l ≤ 30) (ha : a < 6) : WF n B (send σ a w (ni l)).2 := by
  unfold send
  split
  · next hs =>
    split
    · obtain ⟨e, he, hx, _⟩ := h.2.1.2.2.2.2.2.2.2.1 a ha
      unfold keepBack
      rw [hx, ix_ni (by omega)]
      simp (disch := first | omega | decide) only [ni_lt0, nil_lt, nil_add, if_false, Nat.not_lt_zero]
      split
      · exact WF_keep h (by omega) (st_in hs).1
      · exact h
    · exact WF_post h hl hs
  · exact h
theorem firstOn_k {n B a k : Nat} {o : Bool} {σ : St} (h : WF n B σ) (hk : k < 30) (e : firstOn σ a o = ni k) : stands σ a = true ∧ k < mc σ := by
  have hs : stands σ a = true := by
    unfold firstOn at e
    cases q : stands σ a
    · rw [q] at e
      simp only [reduceCtorEq, if_false] at e
      exact absurd e.symm (fun z => (ni_ne1 (by omega)).mp z)
    · rfl
  refine ⟨hs, ?_⟩
  unfold firstOn at e
  rw [hs] at e
  have z := (fow_lt σ a o 30 0 rfl k hk e).1
  rw [WF_mc h, ni_le (by have := WF_30 h; omega) (by omega)] at z
  omega
theorem WF_cut {n B k : Nat} {y : Int32} {σ : St} (h : WF n B σ) (hk : k < 30) : WF n B (tI σ 10 k (gI σ 10 k &&& y)) := by
  refine WF_way h (fun j hj => ?_) (fun hm => ?_)
  · rw [tb_and] at hj
    simp at hj
    exact h.2.1.2.2.2.2.1 k hk j hj.1
  · rw [h.2.1.2.2.2.2.2.1 k hk hm]
    exact Int32.zero_and
theorem WF_take {n B a : Nat} {σ : St} (h : WF n B σ) : WF n B (takeS σ a).2 := by
  unfold takeS
  rcases firstOn_rng σ a true with e | ⟨k, hk, e⟩
  · rw [e, if_neg (by decide)]
    exact h
  · obtain ⟨hs, hm⟩ := firstOn_k h hk e
    have ha := st_n h hs
    have hn := WF_6 h
    dsimp only
    rw [e, ix_ni (by omega)]
    split
    · refine WF_deliver (WF_cut h hk) ha hm (by have z := WF_lg h (by omega) hs; exact z)
    · exact h
theorem WF_lose {n B a : Nat} {σ : St} (h : WF n B σ) : WF n B (loseS σ a).2 := by
  unfold loseS
  rcases firstOn_rng σ a false with e | ⟨k, hk, e⟩
  · rw [e, if_neg (by decide)]
    exact h
  · dsimp only
    rw [e, ix_ni (by omega)]
    split
    · exact WF_cut h hk
    · exact h
theorem WF_tell {n B a : Nat} {σ : St} (h : WF n B σ) (ha : a < 6) : WF n B (tellS σ a).2 := by
  unfold tellS
  split
  · have z := itn_inv (f := tellF a) (P := fun _ τ => WF n B τ ∧ mc τ = mc σ) 6 0 σ ⟨h, rfl⟩ (fun k τ _ hk hp => by
      obtain ⟨p1, p2⟩ := hp
      unfold tellF
      split
      · exact ⟨p1, p2⟩
      · next hs =>
        split
        · exact ⟨p1, p2⟩
        · have hs' : stands τ k = true := by
            cases q : stands τ k
            · exact absurd q hs
            · rfl
          have hkn := st_n p1 hs'
          exact ⟨WF_lor p1 (bel_or (p1.2.1.2.2.2.1 _ (by omega)) (p1.2.1.2.1 a ha)) hkn ha, p2⟩)
    exact z.1
  · exact h
theorem WF_trim {n B a : Nat} {σ : St} (h : WF n B σ) : WF n B (trimS σ a).2 := by
  unfold trimS
  split
  · next hs =>
    have ha := st_n h hs
    have hn := WF_6 h
    exact WF_kee h (bel_and (h.2.1.2.2.1 a (by omega))) ha
  · exact h
theorem WF_join {n B a : Nat} {σ : St} (h : WF n B σ) (ha : a < n) : WF n B (joinS σ a).2 := by
  have hn := WF_6 h
  unfold joinS
  split
  · exact h
  · next hs =>
    split
    · exact h
    · obtain ⟨⟨o1, o2, o3, o4, o5, o6, o7, o8, o9, o10, o11⟩, hA, hB⟩ := h
      have hbit : bel n (bit a) := bel_bit ha (by omega)
      have hin : tb (gI σ 0 2) a = false := by
        cases q : tb (gI σ 0 2) a
        · rfl
        · exfalso
          apply hs
          unfold stands standing
          rw [tb_and, o8 a q, q]
          rfl
      refine ⟨⟨o1, o2, o3, bel_or o4 hbit, o5, bel_or o6 hbit, o7, fun k hk => ?_, fun k hk => ?_, o10, fun k hk => ?_⟩, hA, hB⟩
      · show tb (gI σ 0 3 ||| bit a) k = true
        rw [tb_or, o8 k hk]
        rfl
      · have hk' : tb (gI σ 0 5 ||| bit a) k = true := hk
        show tb (gI σ 0 3 ||| bit a) k = true
        rw [tb_or] at hk' ⊢
        cases q : tb (gI σ 0 5) k
        · rw [q] at hk'
          simp at hk'
          simp [hk']
        · rw [o9 k q]
          rfl
      · have hk' : tb (gI σ 0 5 ||| bit a) k = true := hk
        show tb (gI σ 0 2) k = false
        rw [tb_or] at hk'
        cases q : tb (gI σ 0 5) k
        · rw [q, bit, tb_bit (by omega)] at hk'
          simp at hk'
          rw [hk']
          exact hin
        · exact o11 k q
theorem WF_part {n B : Nat} {x : Int32} {σ : St} (h : WF n B σ) (hx : bel 6 x) : WF n B (partS σ x).2 := by
  unfold partS
  split
  · exact h
  · obtain ⟨⟨o1, o2, o3, o4, o5, o6, o7, o8, o9, o10, o11⟩, hA, hB⟩ := h
    exact ⟨⟨o1, o2, o3, o4, o5, o6, hx, o8, o9, o10, o11⟩, hA, hB⟩
theorem WF_blk {n B : Nat} {x : Int32} {σ : St} (h : WF n B σ) (hb : bel n x) (hx : sbs x (gI σ 0 2)) : WF n B (tI σ 0 4 (gI σ 0 4 ||| x)) := by
  obtain ⟨⟨o1, o2, o3, o4, o5, o6, o7, o8, o9, o10, o11⟩, hA, hB⟩ := h
  refine ⟨⟨o1, o2, o3, o4, bel_or o5 hb, o6, o7, o8, o9, fun k hk => ?_, o11⟩, hA, hB⟩
  have hk' : tb (gI σ 0 4 ||| x) k = true := hk
  rw [tb_or] at hk'
  cases q : tb (gI σ 0 4) k
  · rw [q] at hk'
    simp at hk'
    exact hx k hk'
  · exact o10 k q
theorem WF_crash {n B a : Nat} {σ : St} (h : WF n B σ) : WF n B (crashS σ a).2 := by
  unfold crashS
  split
  · next hu =>
    obtain ⟨⟨o1, o2, o3, o4, o5, o6, o7, o8, o9, o10, o11⟩, ⟨h1, h2, h3, h4, h5, h6, h7, h8, h9, h10, h11⟩, hB⟩ := h
    have ha : a < n := by
      by_cases q : a < n
      · exact q
      · rw [o4 a (by omega)] at hu
        cases hu
    generalize hx : bit a ^^^ (-1 : Int32) = x
    have gI' : ∀ b j, gI (itn (crashB x) 30 0 (itn (crashA a) 6 0 (tI (tI (tI (tI (tI (tI (tI σ 0 3 (gI σ 0 3 &&& x)) 0 2 (gI σ 0 2 &&& x)) 0 4 (gI σ 0 4 &&& x)) 0 5 (gI σ 0 5 &&& x)) 5 a 0) 2 a 0) 3 a 0))) b j = if b = 10 ∧ j < 30 then gI σ 10 j &&& x else if b = 4 ∧ a * 6 ≤ j ∧ j < a * 6 + 6 then 0 else if (b = 2 ∨ b = 3 ∨ b = 5) ∧ j = a then 0 else if b = 0 ∧ (j = 2 ∨ j = 3 ∨ j = 4 ∨ j = 5) then gI σ 0 j &&& x else gI σ b j := by
      intro b j
      rw [gI_crB, gI_crA]
      by_cases e1 : b = 10 ∧ j < 30
      · rw [if_pos (by omega), if_pos e1, if_neg (by omega)]
        simp (disch := omega) only [gI_tI, if_neg]
        rw [e1.1]
      · rw [if_neg (by omega), if_neg e1]
        by_cases e2 : b = 4 ∧ a * 6 ≤ j ∧ j < a * 6 + 6
        · rw [if_pos (by omega), if_pos e2]
        · rw [if_neg (by omega), if_neg e2]
          by_cases e3 : (b = 2 ∨ b = 3 ∨ b = 5) ∧ j = a
          · rw [if_pos e3]
            obtain ⟨rfl | rfl | rfl, rfl⟩ := e3 <;> simp [gI_tI]
          · rw [if_neg e3]
            by_cases e4 : b = 0 ∧ (j = 2 ∨ j = 3 ∨ j = 4 ∨ j = 5)
            · rw [if_pos e4]
              obtain ⟨rfl, rfl | rfl | rfl | rfl⟩ := e4 <;> rfl
            · rw [if_neg e4]
              simp (disch := omega) only [gI_tI, if_neg]
    dsimp only
    generalize itn (crashB x) 30 0 (itn (crashA a) 6 0 (tI (tI (tI (tI (tI (tI (tI σ 0 3 (gI σ 0 3 &&& x)) 0 2 (gI σ 0 2 &&& x)) 0 4 (gI σ 0 4 &&& x)) 0 5 (gI σ 0 5 &&& x)) 5 a 0) 2 a 0) 3 a 0)) = κ at gI' ⊢
    have k0 : ∀ j, j = 2 ∨ j = 3 ∨ j = 4 ∨ j = 5 → gI κ 0 j = gI σ 0 j &&& x := fun j hj => by rw [gI', if_neg (by omega), if_neg (by omega), if_neg (by omega), if_pos ⟨rfl, hj⟩]
    have k1 : ∀ j, ¬ (j = 2 ∨ j = 3 ∨ j = 4 ∨ j = 5) → gI κ 0 j = gI σ 0 j := fun j hj => by rw [gI', if_neg (by omega), if_neg (by omega), if_neg (by omega), if_neg (by omega)]
    have kt : ∀ (y : Int32) k, tb (y &&& x) k = true → tb y k = true ∧ k ≠ a := fun y k hk => by
      have h32 : k < 32 := by
        by_cases q : k < 32
        · exact q
        · rw [tb_ge (by omega)] at hk
          cases hk
      rw [← hx, tb_cl (by omega) h32] at hk
      simp at hk
      exact hk
    have ki : ∀ (y : Int32) k, tb y k = true → k ≠ a → tb (y &&& x) k = true := fun y k hk hka => by
      have h32 : k < 32 := by
        by_cases q : k < 32
        · exact q
        · rw [tb_ge (by omega)] at hk
          cases hk
      rw [← hx, tb_cl (by omega) h32, hk]
      simp [hka]
    have km : mc κ = mc σ := by
      unfold mc
      rw [k1 7 (by omega)]
    refine ⟨?_, ⟨?_, fun i hi => ?_, fun i hi => ?_, fun i hi => ?_, fun i hi => ?_, fun i hi hm => ?_, fun i hi => ?_, fun i hi => ?_, fun i hi => ?_, ?_, fun i hi1 hi2 => ?_⟩, hB⟩
    · rw [k1 1 (by omega), k0 2 (by omega), k0 3 (by omega), k0 4 (by omega), k0 5 (by omega), k1 6 (by omega)]
      refine ⟨o1, o2, bel_and o3, bel_and o4, bel_and o5, bel_and o6, o7, fun k hk => ?_, fun k hk => ?_, fun k hk => ?_, fun k hk => ?_⟩
      · obtain ⟨q1, q2⟩ := kt _ k hk
        exact ki _ k (o8 k q1) q2
      · obtain ⟨q1, q2⟩ := kt _ k hk
        exact ki _ k (o9 k q1) q2
      · obtain ⟨q1, q2⟩ := kt _ k hk
        exact ki _ k (o10 k q1) q2
      · obtain ⟨q1, q2⟩ := kt _ k hk
        rw [tb_and, o11 k q1]
        rfl
    · rw [km, k1 7 (by omega)]
      exact h1
    · rw [km, gI', if_neg (by omega), if_neg (by omega)]
      split
      · exact bel_0 _
      · rw [if_neg (by omega)]
        exact h2 i hi
    · rw [km, gI', if_neg (by omega), if_neg (by omega)]
      split
      · exact bel_0 _
      · rw [if_neg (by omega)]
        exact h3 i hi
    · rw [km, gI', if_neg (by omega)]
      split
      · exact bel_0 _
      · rw [if_neg (by omega), if_neg (by omega)]
        exact h4 i hi
    · rw [k0 2 (by omega), gI', if_pos ⟨rfl, hi⟩]
      intro k hk
      obtain ⟨q1, q2⟩ := kt _ k hk
      exact ki _ k (h5 i hi k q1) q2
    · rw [km] at hm
      rw [gI', if_pos ⟨rfl, hi⟩, h6 i hi hm]
      exact Int32.zero_and
    · rw [km] at hi
      obtain ⟨a', q1, q2⟩ := h7 i hi
      refine ⟨a', q1, ?_⟩
      rw [gI', if_neg (by omega), if_neg (by omega), if_neg (by omega), if_neg (by omega)]
      exact q2
    · obtain ⟨e, e1, e2, e3⟩ := h8 i hi
      rw [gI', if_neg (by omega), if_neg (by omega)]
      by_cases q : i = a
      · rw [if_pos (by omega)]
        exact ⟨0, by omega, rfl, fun z => by omega⟩
      · rw [if_neg (by omega), if_neg (by omega)]
        refine ⟨e, e1, e2, fun z => ?_⟩
        rw [k0 2 (by omega)]
        exact ki _ i (e3 z) q
    · rw [gI', if_neg (by omega), if_neg (by omega), if_neg (by omega), if_neg (by omega)]
      exact h9 i hi
    · obtain ⟨b, b1, b2, b3, b4⟩ := h10
      refine ⟨b, b1, b2, by rw [k1 0 (by omega)]; exact b3, fun i hi => ?_⟩
      obtain ⟨g, g1, g2, g3, g4⟩ := b4 i hi
      refine ⟨g, g1, ?_, fun z => ?_, fun z => ?_⟩
      · rw [gI', if_neg (by omega), if_neg (by omega), if_neg (by omega), if_neg (by omega)]
        exact g2
      · rw [k0 2 (by omega)] at z
        exact g3 (kt _ i z).1
      · rw [gI', if_neg (by omega), if_neg (by omega), if_neg (by omega), if_neg (by omega)]
        exact g4 z
    · obtain ⟨q1, q2, q3⟩ := h11 i hi1 hi2
      refine ⟨?_, ?_, fun j hj => ?_⟩
      · rw [gI', if_neg (by omega), if_neg (by omega), if_neg (by omega), if_neg (by omega)]
        exact q1
      · rw [gI', if_neg (by omega), if_neg (by omega), if_neg (by omega), if_neg (by omega)]
        exact q2
      · rw [gI', if_neg (by omega), if_neg (by omega), if_neg (by omega), if_neg (by omega)]
        exact q3 j hj
  · exact h
