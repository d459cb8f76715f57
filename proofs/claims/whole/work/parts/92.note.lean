/-! L2: the note. -/
def memN (σ : St) (i : Nat) : List Nat := dgs i ++ (if tb (gI σ 0 4) i then [33] else []) ++ (if tb (gI σ 0 3) i then [] else [63])
def ntF (σ : St) (i : Nat) (q : Bool × List Nat) : Bool × List Nat := if tb (gI σ 0 1) i then (false, q.2 ++ (if q.1 then [] else [44]) ++ memN σ i) else q
def headN (v : Nat) : List Nat := [] ++ [118] ++ dgs v ++ [58]
def noteN (σ : St) (n v c : Nat) : List Nat := (itn (ntF σ) n 0 (true, headN v)).2 ++ [59] ++ dgs c
theorem dgs_len {v : Nat} (hv : v < 1000000) : (dgs v).length ≤ 6 := by
  unfold dgs
  rw [dl_len]
  have := (kd_p hv).2.2
  omega
theorem dgs_1 {v : Nat} (hv : v < 10) : (dgs v).length = 1 := by
  unfold dgs
  rw [dl_len]
  unfold kd
  rw [if_pos hv]
theorem memN_len (σ : St) {i : Nat} (hi : i < 6) : (memN σ i).length ≤ 3 := by
  unfold memN
  rw [List.length_append, List.length_append, dgs_1 (by omega)]
  split <;> split <;> simp only [List.length_nil, List.length_cons] <;> omega
def A4 : Nat → Prop := fun b => b = 45 ∨ b = 46
theorem abs_4 {m m' : Mm} {s : Nat} (hs : s = 16 ∨ s = 29) (f : Fm A4 m m') : absC m' s = absC m s := abs_fr f (fun b h1 h2 => by unfold A4; omega)
theorem c_mem4 {l : List Nat} {i s : Nat} {σ : St} {m : Mm} (hs : s = 16 ∨ s = 29) (hi : i < 6) (g : G m) (h : NC4 l m) (hl : l.length < 50) (ha : absC m s = σ) :
    ∃ m', F_X4_putMember 45 s (ni i) m = some ((), m') ∧ NC4 (l ++ memN σ i) m' ∧ Fm A4 m m' := by
  obtain ⟨m1, x1, x2, x3⟩ := c_number4 (v := i) (by omega) g h (by omega)
  have g1 := G_fr x3 g
  have a1 := (abs_4 hs x3).trans ha
  have d1 : (l ++ dgs i).length < 52 := by rw [List.length_append, dgs_1 (by omega)]; omega
  have hO : ∀ M, G M → okO M s 7 = true := fun M gM => by
    rcases hs with rfl | rfl
    · exact gO16 gM
    · exact gO29 gM
  have hh4 : F_X11_has (rI m1 s 4) (ni i) m1 = some (b2i (tb (gI σ 0 4) i), m1) := by rw [rI_o0 s m1 (by omega), a1, hasC, has6_ni hi]
  have fin : ∀ (l2 : List Nat) (M : Mm), NC4 l2 M → l2.length < 55 → Fm A4 m M → (bd (F_X11_has (rI M s 3) (ni i) M) fun r5 m6 => if r5 = 0 then gd (okO m6 45 4) (bd (F_X4_put 45 (63 : Int32) m6) fun r7 m8 => some ((), m8)) else some ((), m6)) = (bd (F_X11_has (rI M s 3) (ni i) M) fun r5 m6 => if r5 = 0 then gd (okO m6 45 4) (bd (F_X4_put 45 (63 : Int32) m6) fun r7 m8 => some ((), m8)) else some ((), m6)) ∧ ∃ m', (bd (F_X11_has (rI M s 3) (ni i) M) fun r5 m6 => if r5 = 0 then gd (okO m6 45 4) (bd (F_X4_put 45 (63 : Int32) m6) fun r7 m8 => some ((), m8)) else some ((), m6)) = some ((), m') ∧ NC4 (l2 ++ (if tb (gI σ 0 3) i then [] else [63])) m' ∧ Fm A4 m m' := by
    intro l2 M hM hl2 fM
    refine ⟨rfl, ?_⟩
    have gM := G_fr fM g
    have aM := (abs_4 hs fM).trans ha
    have hh3 : F_X11_has (rI M s 3) (ni i) M = some (b2i (tb (gI σ 0 3) i), M) := by rw [rI_o0 s M (by omega), aM, hasC, has6_ni hi]
    cases t : tb (gI σ 0 3) i
    · rw [t] at hh3
      obtain ⟨m', y1, y2, y3⟩ := c_put4 (k := 63) gM hM (by omega) (by omega)
      refine ⟨m', ?_, y2, Fm_trans fM y3⟩
      rw [show ni 63 = 63 from rfl] at y1
      simp only [hh3, bd_s, b2i_f, if_true, gO45 gM, gd_t, y1]
    · rw [t] at hh3
      refine ⟨M, ?_, ?_, fM⟩
      · simp only [hh3, bd_s, b2i_t, o10, if_false]
      · show NC4 (l2 ++ []) M
        rw [List.append_nil]
        exact hM
  unfold F_X4_putMember
  cases t : tb (gI σ 0 4) i
  · rw [t] at hh4
    obtain ⟨_, m', y1, y2, y3⟩ := fin (l ++ dgs i) m1 x2 (by omega) x3
    refine ⟨m', ?_, ?_, y3⟩
    · simp only [gO45 g, gd_t, bdE x1, hO m1 g1, bdE hh4, jn_e, b2i_f, if_true]
      exact y1
    · unfold memN
      rw [t, if_neg (by decide), List.append_nil, ← List.append_assoc]
      exact y2
  · rw [t] at hh4
    obtain ⟨m2, z1, z2, z3⟩ := c_put4 (k := 33) g1 x2 (by omega) (by omega)
    rw [show ni 33 = 33 from rfl] at z1
    have f2 := Fm_trans x3 z3
    obtain ⟨_, m', y1, y2, y3⟩ := fin (l ++ dgs i ++ [33]) m2 z2 (by rw [len_n]; omega) f2
    refine ⟨m', ?_, ?_, y3⟩
    · simp only [gO45 g, gO45 g1, gd_t, bdE x1, hO m1 g1, hO m2 (G_fr f2 g), bdE hh4, jn_e, b2i_t, o10, if_false, bdE z1]
      exact y1
    · unfold memN
      rw [t, if_pos rfl, ← List.append_assoc, ← List.append_assoc]
      exact y2
