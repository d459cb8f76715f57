/-! L2: hold and view: pure; kept; the reference's. -/
theorem clamp_ni (x : Int32) : ∃ k, k ≤ 99 ∧ clampI x = ni k := by
  have a0 : (0 : Int32).toInt = 0 := by decide
  have a9 : (99 : Int32).toInt = 99 := by decide
  have h : 0 ≤ (clampI x).toInt ∧ (clampI x).toInt ≤ 99 := by
    unfold clampI mnI mxI
    repeat' split
    all_goals simp only [Int32.lt_iff_toInt_lt] at *
    all_goals omega
  have h0 : ¬ clampI x < 0 := by
    rw [Int32.lt_iff_toInt_lt]
    omega
  refine ⟨ix (clampI x), ?_, nx_of h0⟩
  have : (clampI x).toInt = (ix (clampI x) : Int) := by
    have e := nx_of h0
    have b := ix_B (clampI x)
    conv => lhs; rw [e]
    exact ni_toInt b
  omega
theorem wt_ni (cs : Nat → Nat) (len : Nat) (σ : St) (i : Nat) : ∃ k, k ≤ 99 ∧ wt cs len σ i = ni k := clamp_ni _
theorem sumW_ni {f : Nat → Int32} {x : Int32} (hf : ∀ i, ∃ k, k ≤ 99 ∧ f i = ni k) : ∀ n, ∃ s, s ≤ 99 * n ∧ sumW f x n = ni s := by
  intro n
  induction n with
  | zero => exact ⟨0, by omega, rfl⟩
  | succ n ih =>
    obtain ⟨s, hs, e⟩ := ih
    have hS : sumW f x (n + 1) = sumW f x n + (if tb x n then f n else 0) := by
      unfold sumW
      rw [itn_s, Nat.zero_add]
      rfl
    rw [hS, e]
    obtain ⟨k, hk, ek⟩ := hf n
    split
    · rw [ek, ni_add]
      exact ⟨s + k, by omega, rfl⟩
    · rw [show ni s + 0 = ni (s + 0) from ni_add s 0]
      exact ⟨s + 0, by omega, rfl⟩
theorem lame_0 {f : Nat → Int32} {y : Int32} {n : Nat} (hf : ∀ i, ∃ k, k ≤ 99 ∧ f i = ni k) (hn : n ≤ 6) : lame f (sumW f y n) n 0 = true := by
  unfold lame
  have e : sumW f 0 n = 0 := by
    have := sumW_tail (f := f) (x := 0) (n := 0) (N := n) (by omega) (bel_0 0)
    rw [this]
    rfl
  obtain ⟨s, hs, e2⟩ := sumW_ni (x := y) hf n
  rw [e, e2]
  apply decide_eq_true
  rw [show (2 : Int32) * 0 = ni 0 by decide, ni_le (by omega) (by omega)]
  omega
theorem prim_sv {n B len : Nat} {cs : Nat → Nat} {σ : St} {p st : Int32} (h : WF n B σ) (hb : bel n st) (hp : prim cs len n σ p st ≠ -1) :
    prim cs len n σ p st &&& st ≠ 0 ∧ bel n (prim cs len n σ p st) ∧ (∀ k, tb (prim cs len n σ p st) k = true → tb st k = true ∨ tb (gI σ 0 5) k = true) := by
  have hn := WF_6 h
  have hl0 := lame_0 (f := wt cs len σ) (y := gI σ 0 1) (n := n) (wt_ni cs len σ) hn
  have huw : bel n (st ||| (gI σ 0 3 &&& gI σ 0 5)) := bel_or hb (bel_and h.1.2.2.2.1)
  have key : ∀ q : Int32, lame (wt cs len σ) (sumW (wt cs len σ) (gI σ 0 1) n) n (st &&& q) = false → (q &&& (st ||| (gI σ 0 3 &&& gI σ 0 5))) &&& st ≠ 0 ∧ bel n (q &&& (st ||| (gI σ 0 3 &&& gI σ 0 5))) ∧ (∀ k, tb (q &&& (st ||| (gI σ 0 3 &&& gI σ 0 5))) k = true → tb st k = true ∨ tb (gI σ 0 5) k = true) := by
    intro q hq
    refine ⟨fun e => ?_, bel_and2 huw, fun k hk => ?_⟩
    · have : st &&& q = 0 := by
        rw [eq0] at e ⊢
        intro k
        have := e k
        rw [tb_and, tb_and, tb_or] at this
        rw [tb_and]
        cases h1 : tb st k <;> cases h2 : tb q k <;> simp_all
      rw [this, hl0] at hq
      cases hq
    · rw [tb_and, tb_or, tb_and] at hk
      simp at hk
      rcases hk.2 with h1 | h1
      · exact .inl h1
      · exact .inr h1.2
  unfold prim partP at hp ⊢
  cases h1 : lame (wt cs len σ) (sumW (wt cs len σ) (gI σ 0 1) n) n (st &&& p)
  · simp only [reduceCtorEq, if_false]
    exact key p h1
  · rw [h1] at hp
    cases h2 : lame (wt cs len σ) (sumW (wt cs len σ) (gI σ 0 1) n) n (st &&& (p ^^^ (-1 : Int32)))
    · simp only [reduceCtorEq, if_false, if_true]
      exact key _ h2
    · rw [h2] at hp
      exact absurd rfl hp
def holdS (cs : Nat → Nat) (len n : Nat) (σ : St) : Bool × St :=
  if partN cs len n σ = -1 then (false, σ) else if (partN cs len n σ &&& standing σ) &&& (gI σ 0 4 ^^^ (-1 : Int32)) = 0 then (false, σ) else (true, tI σ 0 4 (gI σ 0 4 ||| (partN cs len n σ &&& standing σ)))
def newView (cs : Nat → Nat) (len n : Nat) (lim : Int32) (σ : St) : St := sendHeld (changeView σ (partN cs len n σ &&& standing σ) (partN cs len n σ &&& gI σ 0 5)) lim
def viewS (cs : Nat → Nat) (len n : Nat) (lim : Int32) (σ : St) : Bool × St :=
  if partN cs len n σ = -1 then (false, σ) else if (partN cs len n σ &&& standing σ) &&& (gI σ 0 4 ^^^ (-1 : Int32)) = 0 then
    (if partN cs len n σ = gI σ 0 1 then (if partN cs len n σ &&& gI σ 0 5 = 0 then (false, σ) else (true, newView cs len n lim σ)) else (true, newView cs len n lim σ))
  else (false, σ)
theorem sbs_st {σ : St} {x : Int32} : sbs (x &&& standing σ) (gI σ 0 2) := fun k hk => by
  unfold standing at hk
  rw [tb_and, tb_and] at hk
  simp at hk
  exact hk.2.2
theorem WF_hold {n B len : Nat} {cs : Nat → Nat} {σ : St} (h : WF n B σ) : WF n B (holdS cs len n σ).2 := by
  unfold holdS
  split
  · exact h
  · split
    · exact h
    · exact WF_blk h (bel_and2 (bel_st h)) sbs_st
/-! the new view keeps -/
theorem WF_cv {n B : Nat} {σ : St} {x jo : Int32} (h : WF n B σ) (hB : B + 1 < 1000000) (hx : sbs x (standing σ)) (hx0 : x ≠ 0) (hj : sbs jo (gI σ 0 5)) : WF n (B + 1) (changeView σ x jo) ∧ gI (changeView σ x jo) 0 4 = 0 := by
  have hn := WF_6 h
  have hxi : sbs x (gI σ 0 2) := fun k hk => by
    have := hx k hk
    unfold standing at this
    rw [tb_and] at this
    simp at this
    exact this.2
  have hxn : ∀ a, tb x a = true → a < n := fun a e => st_n h (hx a e)
  have hl : ∀ a, a < 6 → tb x a = true → Lg σ a := fun a ha e => WF_lg h ha (hx a e)
  obtain ⟨w1, w2, w3⟩ := WF_flush h (fun a ha e => ⟨hxn a e, hl a ha e⟩)
  have hbx : bel n x := fun k hk => by
    cases e : tb x k
    · rfl
    · have := hxn k e
      omega
  have hbj : bel n jo := fun k hk => by
    cases e : tb jo k
    · rfl
    · have := hj k e
      rw [h.1.2.2.2.2.2.1 k hk] at this
      cases this
  have hb6 : bel 6 x := bel_mono hn hbx
  obtain ⟨z1, z2⟩ := lst_tb hb6 hx0
  have l6 := lst_6 x
  have hji : ∀ k, tb jo k = true → tb (gI σ 0 2) k = false := fun k hk => h.1.2.2.2.2.2.2.2.2.2.2 k (hj k hk)
  have hjl : tb jo (lst x) = false := by
    cases e : tb jo (lst x)
    · rfl
    · have := hji _ e
      rw [hxi _ z1] at this
      cases this
  have f0 := fun b j q => flush_0 σ x b j q
  unfold changeView
  rw [ntz_lst hb6 hx0]
  dsimp only
  generalize flush σ x = ρ at *
  rw [cv_eq l6 hjl]
  generalize gL (tI (tI ρ 0 0 (gI ρ 0 0 + 1)) 0 1 (x ||| jo)) 11 (lst x) = s
  obtain ⟨cI, _⟩ := itn_own (cvG_loc jo s) 6 0 (tI (tI ρ 0 0 (gI ρ 0 0 + 1)) 0 1 (x ||| jo)) (by omega)
  generalize itn (cvG jo s) 6 0 (tI (tI ρ 0 0 (gI ρ 0 0 + 1)) 0 1 (x ||| jo)) = κ at *
  have c0 : ∀ j, gI κ 0 j = gI (tI (tI ρ 0 0 (gI ρ 0 0 + 1)) 0 1 (x ||| jo)) 0 j := fun j => by
    rw [cI 0 j (owI_98 _ _), owI_c (by omega) (by omega), if_neg (by omega)]
  have cj : ∀ b j, b = 1 ∨ b = 5 ∨ b = 7 → j < 6 → gI κ b j = gI (cvG jo s j (tI (tI ρ 0 0 (gI ρ 0 0 + 1)) 0 1 (x ||| jo))) b j := fun b j hb hj => by
    rw [cI b j (owI_98 _ _), owI_j (by omega) hj, if_pos (by omega)]
  have e01 : gI (tI (tI ρ 0 0 (gI ρ 0 0 + 1)) 0 1 (x ||| jo)) 0 1 = x ||| jo := rfl
  have d0 : gI (dropM (tI (tI (tI κ 0 2 (gI κ 0 1)) 0 5 (gI κ 0 5 &&& (jo ^^^ (-1 : Int32)))) 0 4 0)) 0 0 = gI ρ 0 0 + 1 := by
    rw [gI_dropM, show drz 0 0 = false by decide]
    simp only [gI_tI, c0, reduceCtorEq, if_false, Nat.reduceEqDiff, and_false, and_true, if_true]
  have d1 : gI (dropM (tI (tI (tI κ 0 2 (gI κ 0 1)) 0 5 (gI κ 0 5 &&& (jo ^^^ (-1 : Int32)))) 0 4 0)) 0 1 = x ||| jo := by
    rw [gI_dropM, show drz 0 1 = false by decide]
    simp only [gI_tI, c0, reduceCtorEq, if_false, Nat.reduceEqDiff, and_false, and_true, if_true]
  have d2 : gI (dropM (tI (tI (tI κ 0 2 (gI κ 0 1)) 0 5 (gI κ 0 5 &&& (jo ^^^ (-1 : Int32)))) 0 4 0)) 0 2 = x ||| jo := by
    rw [gI_dropM, show drz 0 2 = false by decide]
    simp only [gI_tI, c0, reduceCtorEq, if_false, Nat.reduceEqDiff, and_false, and_true, if_true]
  have d3 : gI (dropM (tI (tI (tI κ 0 2 (gI κ 0 1)) 0 5 (gI κ 0 5 &&& (jo ^^^ (-1 : Int32)))) 0 4 0)) 0 3 = gI σ 0 3 := by
    rw [gI_dropM, show drz 0 3 = false by decide, ← f0 0 3 (by omega)]
    simp only [gI_tI, c0, reduceCtorEq, if_false, Nat.reduceEqDiff, and_false, and_true, if_true]
  have d4 : gI (dropM (tI (tI (tI κ 0 2 (gI κ 0 1)) 0 5 (gI κ 0 5 &&& (jo ^^^ (-1 : Int32)))) 0 4 0)) 0 4 = 0 := by
    rw [gI_dropM, show drz 0 4 = false by decide]
    rfl
  have d5 : gI (dropM (tI (tI (tI κ 0 2 (gI κ 0 1)) 0 5 (gI κ 0 5 &&& (jo ^^^ (-1 : Int32)))) 0 4 0)) 0 5 = gI σ 0 5 &&& (jo ^^^ (-1 : Int32)) := by
    rw [gI_dropM, show drz 0 5 = false by decide, ← f0 0 5 (by omega)]
    simp only [gI_tI, c0, reduceCtorEq, if_false, Nat.reduceEqDiff, and_false, and_true, if_true]
  have d6 : gI (dropM (tI (tI (tI κ 0 2 (gI κ 0 1)) 0 5 (gI κ 0 5 &&& (jo ^^^ (-1 : Int32)))) 0 4 0)) 0 6 = gI σ 0 6 := by
    rw [gI_dropM, show drz 0 6 = false by decide, ← f0 0 6 (by omega)]
    simp only [gI_tI, c0, reduceCtorEq, if_false, Nat.reduceEqDiff, and_false, and_true, if_true]
  have d7 : gI (dropM (tI (tI (tI κ 0 2 (gI κ 0 1)) 0 5 (gI κ 0 5 &&& (jo ^^^ (-1 : Int32)))) 0 4 0)) 0 7 = 0 := by
    rw [gI_dropM, show drz 0 7 = true by decide]
    rfl
  have dz : ∀ b j, drz b j = true → gI (dropM (tI (tI (tI κ 0 2 (gI κ 0 1)) 0 5 (gI κ 0 5 &&& (jo ^^^ (-1 : Int32)))) 0 4 0)) b j = 0 := fun b j hz => by
    rw [gI_dropM, hz]
    rfl
  have dj : ∀ b j, b = 1 ∨ b = 5 ∨ b = 7 → j < 6 → gI (dropM (tI (tI (tI κ 0 2 (gI κ 0 1)) 0 5 (gI κ 0 5 &&& (jo ^^^ (-1 : Int32)))) 0 4 0)) b j = gI (cvG jo s j (tI (tI ρ 0 0 (gI ρ 0 0 + 1)) 0 1 (x ||| jo))) b j := fun b j hb hj => by
    have hz : drz b j = false := by
      rcases hb with rfl | rfl | rfl <;> rfl
    rw [gI_dropM, hz]
    simp only [reduceCtorEq, if_false]
    rw [gI_tI, if_neg (by omega), gI_tI, if_neg (by omega), gI_tI, if_neg (by omega)]
    exact cj b j hb hj
  generalize dropM (tI (tI (tI κ 0 2 (gI κ 0 1)) 0 5 (gI κ 0 5 &&& (jo ^^^ (-1 : Int32)))) 0 4 0) = ω at *
  have hm : mc ω = 0 := by
    unfold mc
    rw [d7]
    decide
  have z2 : ∀ i, i < 6 → drz 2 i = true := by decide
  have z3 : ∀ i, i < 6 → drz 3 i = true := by decide
  have z4 : ∀ i, i < 36 → drz 4 i = true := by decide
  have z10 : ∀ i, i < 30 → drz 10 i = true := by decide
  refine ⟨⟨?_, ⟨?_, fun i hi => ?_, fun i hi => ?_, fun i hi => ?_, fun i hi => ?_, fun i hi hm => dz 10 i (z10 i hi), fun i hi => ?_, fun i hi => ?_, fun i hi => ?_, ?_, fun i hi1 hi2 => ⟨dz 2 i (z2 i hi2), dz 3 i (z3 i hi2), fun j hj => dz 4 _ (z4 _ (by omega))⟩⟩, hB⟩, d4⟩
  · rw [d1, d2, d3, d4, d5, d6]
    obtain ⟨o1, o2, o3, o4, o5, o6, o7, o8, o9, o10, o11⟩ := h.1
    refine ⟨o1, bel_or hbx hbj, bel_or hbx hbj, o4, bel_0 _, bel_and o6, o7, fun k hk => ?_, fun k hk => ?_, fun k hk => ?_, fun k hk => ?_⟩
    · rw [tb_or] at hk
      simp at hk
      rcases hk with hk | hk
      · exact o8 k (hxi k hk)
      · exact o9 k (hj k hk)
    · rw [tb_and] at hk
      simp at hk
      exact o9 k hk.1
    · rw [tb_0] at hk
      cases hk
    · rw [tb_and, tb_not] at hk
      simp at hk
      rw [tb_or]
      have e1 : tb x k = false := by
        cases e : tb x k
        · rfl
        · have := hxi k e
          rw [o11 k hk.1] at this
          cases this
      rw [e1, hk.2.2]
      rfl
  · rw [hm, d7]
    exact ⟨rfl, by omega⟩
  · rw [dz 2 i (z2 i hi)]
    exact bel_0 _
  · rw [dz 3 i (z3 i hi)]
    exact bel_0 _
  · rw [dz 4 i (z4 i hi)]
    exact bel_0 _
  · rw [dz 10 i (z10 i hi)]
    intro k hk
    rw [tb_0] at hk
    cases hk
  · omega
  · obtain ⟨e, e1, e2, e3⟩ := w1.2.1.2.2.2.2.2.2.2.1 i hi
    rw [dj 5 i (by omega) hi, cvG_I, if_neg (by omega), e01, d2]
    by_cases q : tb (x ||| jo) i = false
    · rw [if_pos ⟨rfl, rfl, q⟩]
      exact ⟨0, by omega, rfl, fun z => by omega⟩
    · rw [if_neg (fun z => q z.2.2), if_neg (by omega)]
      refine ⟨e, e1, e2, fun _ => ?_⟩
      cases z : tb (x ||| jo) i
      · exact absurd z q
      · rfl
  · rw [dj 7 i (by omega) hi, cvG_I]
    split
    · exact ⟨1, by omega, rfl⟩
    · rw [if_neg (by omega), if_neg (by omega)]
      exact w1.2.1.2.2.2.2.2.2.2.2.1 i hi
  · obtain ⟨b, b1, b2, b3, b4⟩ := w1.2.1.2.2.2.2.2.2.2.2.2.1
    refine ⟨b + 1, by omega, by omega, by rw [d0, b3]; exact ni_add b 1, fun i hi => ?_⟩
    obtain ⟨g, g1, g2, g3, g4⟩ := b4 i hi
    have eg : gI (tI (tI ρ 0 0 (gI ρ 0 0 + 1)) 0 1 (x ||| jo)) 1 i = ni g := g2
    have e7 : gI (tI (tI ρ 0 0 (gI ρ 0 0 + 1)) 0 1 (x ||| jo)) 7 i = gI ρ 7 i := rfl
    rw [dj 1 i (by omega) hi, cvG_I, if_neg (by omega), if_neg (by omega), e01, d2, dj 7 i (by omega) hi, cvG_I, eg, e7]
    cases q : tb (x ||| jo) i
    · rw [if_neg (by simp)]
      refine ⟨g, by omega, rfl, fun z => (by cases z), fun z => ?_⟩
      have : tb jo i = false := by
        rw [tb_or] at q
        simp at q
        exact q.2
      rw [if_neg (by rw [this]; simp), if_neg (by omega), if_neg (by simp)]
      exact g4 z
    · rw [if_pos ⟨rfl, rfl, rfl⟩]
      exact ⟨g + 1, by omega, ni_add g 1, fun _ => by omega, fun z => by omega⟩
/-! what was held is sent -/
def shF (lim : Int32) (a i : Nat) (σ : St) : St := (post σ a (gI σ 6 (a * 8 + i)) lim).2
theorem post_56 (σ : St) (a : Nat) (w lim : Int32) (b j : Nat) (hb : b = 5 ∨ b = 6 ∨ (b = 0 ∧ j ≠ 7)) : gI (post σ a w lim).2 b j = gI σ b j := by
  unfold post
  repeat' split
  · rfl
  · rfl
  · dsimp only
    rw [gI_del, if_neg (by omega), if_neg (by omega), if_neg (by omega), if_neg (by omega), gI_tI, if_neg (by omega), gI_tI, if_neg (by omega), gI_tI, if_neg (by omega), gI_tI, if_neg (by omega)]
  · rfl
theorem shI_itn {lim : Int32} {a e : Nat} : ∀ (d i : Nat) (σ : St), gI σ 5 a = ni e → e ≤ 8 → i ≤ e → i + d = 8 → shI lim a d i σ = itn (shF lim a) (e - i) i σ := by
  intro d
  induction d with
  | zero =>
    intro i σ h he hi hd
    rw [show e - i = 0 by omega]
    rfl
  | succ d ih =>
    intro i σ h he hi hd
    rw [shI, h, ]
    by_cases q : e = i
    · rw [if_pos (by rw [ni_le (by omega) (by omega)]; omega), show e - i = 0 by omega]
      rfl
    · rw [if_neg (by rw [ni_le (by omega) (by omega)]; omega), show e - i = (e - (i + 1)) + 1 by omega]
      exact ih (i + 1) _ (by rw [post_56 _ _ _ _ _ _ (.inl rfl)]; exact h) he (by omega) (by omega)
theorem stands_post (σ : St) (a : Nat) (w lim : Int32) (k : Nat) : stands (post σ a w lim).2 k = stands σ k := by
  unfold stands standing
  rw [post_56 _ _ _ _ 0 3 (by omega), post_56 _ _ _ _ 0 2 (by omega)]
theorem WF_shM {n B a l : Nat} {σ : St} (h : WF n B σ) (hl : l ≤ 30) (ha : a < 6) : WF n B (shM (ni l) a σ) ∧ gI (shM (ni l) a σ) 0 4 = gI σ 0 4 := by
  obtain ⟨e, e1, e2, e3⟩ := h.2.1.2.2.2.2.2.2.2.1 a ha
  unfold shM
  rw [shI_itn 8 0 σ e2 e1 (by omega) (by omega), Nat.sub_zero]
  by_cases q : e = 0
  · subst q
    exact ⟨WF_held0 h, rfl⟩
  · have hi := e3 (by omega)
    have hs : stands σ a = true := by
      unfold stands standing
      rw [tb_and, h.1.2.2.2.2.2.2.2.1 a hi, hi]
      rfl
    have z := itn_inv (f := shF (ni l) a) (P := fun _ τ => WF n B τ ∧ stands τ a = true ∧ gI τ 0 4 = gI σ 0 4) e 0 σ ⟨h, hs, rfl⟩ (fun k τ _ _ hp => by
      obtain ⟨p1, p2, p3⟩ := hp
      exact ⟨WF_post p1 hl p2, by unfold shF; rw [stands_post]; exact p2, by unfold shF; rw [post_56 _ _ _ _ 0 4 (by omega)]; exact p3⟩)
    exact ⟨WF_held0 z.1, z.2.2⟩
theorem WF_sendHeld {n B l : Nat} {σ : St} (h : WF n B σ) (hl : l ≤ 30) : WF n B (sendHeld σ (ni l)) := by
  unfold sendHeld
  exact itn_inv (f := shM (ni l)) (P := fun _ τ => WF n B τ) 6 0 σ h (fun k τ _ hk hp => (WF_shM hp hl (by omega)).1)
theorem WF_new {n B len l : Nat} {cs : Nat → Nat} {σ : St} (h : WF n B σ) (hB : B + 1 < 1000000) (hl : l ≤ 30) (hp : partN cs len n σ ≠ -1) : WF n (B + 1) (newView cs len n (ni l) σ) := by
  obtain ⟨s1, s2, s3⟩ := prim_sv h (bel_st h) hp
  unfold newView
  refine WF_sendHeld (WF_cv h hB (fun k hk => ?_) s1 (fun k hk => ?_)).1 hl
  · rw [tb_and] at hk
    simp at hk
    exact hk.2
  · rw [tb_and] at hk
    simp at hk
    exact hk.2
theorem WF_view {n B len l : Nat} {cs : Nat → Nat} {σ : St} (h : WF n B σ) (hB : B + 1 < 1000000) (hl : l ≤ 30) : WF n (B + 1) (viewS cs len n (ni l) σ).2 := by
  unfold viewS
  have h' := WF_B h (show B ≤ B + 1 by omega) hB
  split
  · exact h'
  · next hp =>
    split
    · split
      · split
        · exact h'
        · exact WF_new h hB hl hp
      · exact WF_new h hB hl hp
    · exact h'
