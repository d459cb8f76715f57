/-! L2: the note. -/
def memN (σ : St) (i : Nat) : List Nat := dgs i ++ (if tb (gI σ 0 4) i then [33] else []) ++ (if tb (gI σ 0 3) i then [] else [63])
def ntF (σ : St) (i : Nat) (q : Bool × List Nat) : Bool × List Nat := if tb (gI σ 0 1) i then (false, q.2 ++ (if q.1 then [] else [44]) ++ memN σ i) else q
def headN (v : Nat) : List Nat := [] ++ [118] ++ dgs v ++ [58]
def noteN (σ : St) (n v c : Nat) : List Nat := (itn (ntF σ) n 0 (true, headN v)).2 ++ [59] ++ dgs c
theorem dgs_len {v : Nat} (hv : v < 1000000) : (dgs v).length ≤ 6 := by
  unfold dgs
  rw [dl_len]
  have := (kd_p hv).2.2
  omega
theorem dgs_1 {v : Nat} (hv : v < 10) : (dgs v).length = 1 := by
  unfold dgs
  rw [dl_len]
  unfold kd
  rw [if_pos hv]
theorem memN_len (σ : St) {i : Nat} (hi : i < 6) : (memN σ i).length ≤ 3 := by
  unfold memN
  rw [List.length_append, List.length_append, dgs_1 (by omega)]
  split <;> split <;> simp only [List.length_nil, List.length_cons] <;> omega
def A4 : Nat → Prop := fun b => b = 45 ∨ b = 46
theorem abs_4 {m m' : Mm} {s : Nat} (hs : s = 16 ∨ s = 29) (f : Fm A4 m m') : absC m' s = absC m s := abs_fr f (fun b h1 h2 => by unfold A4; omega)
theorem c_mem4 {l : List Nat} {i s : Nat} {σ : St} {m : Mm} (hs : s = 16 ∨ s = 29) (hi : i < 6) (g : G m) (h : NC4 l m) (hl : l.length < 50) (ha : absC m s = σ) :
    ∃ m', F_X4_putMember 45 s (ni i) m = some ((), m') ∧ NC4 (l ++ memN σ i) m' ∧ Fm A4 m m' := by
  obtain ⟨m1, x1, x2, x3⟩ := c_number4 (v := i) (by omega) g h (by omega)
  have g1 := G_fr x3 g
  have a1 := (abs_4 hs x3).trans ha
  have d1 : (l ++ dgs i).length < 52 := by rw [List.length_append, dgs_1 (by omega)]; omega
  have hO : ∀ M, G M → okO M s 7 = true := fun M gM => by
    rcases hs with rfl | rfl
    · exact gO16 gM
    · exact gO29 gM
  have hh4 : F_X11_has (rI m1 s 4) (ni i) m1 = some (b2i (tb (gI σ 0 4) i), m1) := by rw [rI_o0 s m1 (by omega), a1, hasC, has6_ni hi]
  have fin : ∀ (l2 : List Nat) (M : Mm), NC4 l2 M → l2.length < 55 → Fm A4 m M → (bd (F_X11_has (rI M s 3) (ni i) M) fun r5 m6 => if r5 = 0 then gd (okO m6 45 4) (bd (F_X4_put 45 (63 : Int32) m6) fun r7 m8 => some ((), m8)) else some ((), m6)) = (bd (F_X11_has (rI M s 3) (ni i) M) fun r5 m6 => if r5 = 0 then gd (okO m6 45 4) (bd (F_X4_put 45 (63 : Int32) m6) fun r7 m8 => some ((), m8)) else some ((), m6)) ∧ ∃ m', (bd (F_X11_has (rI M s 3) (ni i) M) fun r5 m6 => if r5 = 0 then gd (okO m6 45 4) (bd (F_X4_put 45 (63 : Int32) m6) fun r7 m8 => some ((), m8)) else some ((), m6)) = some ((), m') ∧ NC4 (l2 ++ (if tb (gI σ 0 3) i then [] else [63])) m' ∧ Fm A4 m m' := by
    intro l2 M hM hl2 fM
    refine ⟨rfl, ?_⟩
    have gM := G_fr fM g
    have aM := (abs_4 hs fM).trans ha
    have hh3 : F_X11_has (rI M s 3) (ni i) M = some (b2i (tb (gI σ 0 3) i), M) := by rw [rI_o0 s M (by omega), aM, hasC, has6_ni hi]
    cases t : tb (gI σ 0 3) i
    · rw [t] at hh3
      obtain ⟨m', y1, y2, y3⟩ := c_put4 (k := 63) gM hM (by omega) (by omega)
      refine ⟨m', ?_, y2, Fm_trans fM y3⟩
      rw [show ni 63 = 63 from rfl] at y1
      simp only [hh3, bd_s, b2i_f, if_true, gO45 gM, gd_t, y1]
    · rw [t] at hh3
      refine ⟨M, ?_, ?_, fM⟩
      · simp only [hh3, bd_s, b2i_t, o10, if_false]
      · show NC4 (l2 ++ []) M
        rw [List.append_nil]
        exact hM
  unfold F_X4_putMember
  cases t : tb (gI σ 0 4) i
  · rw [t] at hh4
    obtain ⟨_, m', y1, y2, y3⟩ := fin (l ++ dgs i) m1 x2 (by omega) x3
    refine ⟨m', ?_, ?_, y3⟩
    · simp only [gO45 g, gd_t, bdE x1, hO m1 g1, bdE hh4, jn_e, b2i_f, if_true]
      exact y1
    · unfold memN
      rw [t, if_neg (by decide), List.append_nil, ← List.append_assoc]
      exact y2
  · rw [t] at hh4
    obtain ⟨m2, z1, z2, z3⟩ := c_put4 (k := 33) g1 x2 (by omega) (by omega)
    rw [show ni 33 = 33 from rfl] at z1
    have f2 := Fm_trans x3 z3
    obtain ⟨_, m', y1, y2, y3⟩ := fin (l ++ dgs i ++ [33]) m2 z2 (by rw [len_n]; omega) f2
    refine ⟨m', ?_, ?_, y3⟩
    · simp only [gO45 g, gO45 g1, gd_t, bdE x1, hO m1 g1, hO m2 (G_fr f2 g), bdE hh4, jn_e, b2i_t, o10, if_false, bdE z1]
      exact y1
    · unfold memN
      rw [t, if_pos rfl, ← List.append_assoc, ← List.append_assoc]
      exact y2
theorem nt_len (σ : St) {i : Nat} {q : Bool × List Nat} (hi : i < 6) (h : q.2.length ≤ 8 + 4 * i) : (ntF σ i q).2.length ≤ 8 + 4 * (i + 1) := by
  have hm := memN_len σ hi
  unfold ntF
  split
  · dsimp only
    rw [List.length_append, List.length_append]
    split <;> simp only [List.length_nil, List.length_cons] <;> omega
  · omega
theorem c_ntL {K : Nat → Nat → Mm → Option (Unit × Mm)} {s : Nat} {σ : St} (hs : s = 16 ∨ s = 29) : ∀ (d i fuel : Nat) (q : Bool × List Nat) (m : Mm), i + d = 6 → d < fuel → G m → NC4 q.2 m → absC m s = σ → q.2.length ≤ 8 + 4 * i →
    ∃ m', L_X4_write_29 K fuel 45 s (b2i q.1) (ni i) m = K 45 s m' ∧ NC4 (itn (ntF σ) d i q).2 m' ∧ Fm A4 m m' ∧ (itn (ntF σ) d i q).2.length ≤ 32 := by
  intro d
  induction d with
  | zero =>
    intro i fuel q m hi hf g h ha hl
    obtain ⟨fuel, rfl⟩ : ∃ z, fuel = z + 1 := ⟨fuel - 1, by omega⟩
    refine ⟨m, ?_, h, Fm_refl _ _, by show q.2.length ≤ 32; omega⟩
    have e : (6 : Int32) ≤ ni i := by
      rw [show i = 6 by omega]
      decide
    rw [L_X4_write_29, if_pos e]
  | succ d ih =>
    intro i fuel q m hi hf g h ha hl
    obtain ⟨fuel, rfl⟩ : ∃ z, fuel = z + 1 := ⟨fuel - 1, by omega⟩
    have hi6 : i < 6 := by omega
    have e : ((6 : Int32) ≤ ni i) = False := eq_false (fun z => by
      rw [show (6 : Int32) = ni 6 from rfl, ni_le (by omega) (by omega)] at z
      omega)
    have hO : ∀ M, G M → okO M s 7 = true := fun M gM => by
      rcases hs with rfl | rfl
      · exact gO16 gM
      · exact gO29 gM
    have hh : F_X11_has (rI m s 1) (ni i) m = some (b2i (tb (gI σ 0 1) i), m) := by rw [rI_o0 s m (by omega), ha, hasC, has6_ni hi6]
    have hlen := nt_len σ hi6 hl
    rw [show itn (ntF σ) (d + 1) i q = itn (ntF σ) d (i + 1) (ntF σ i q) from rfl]
    have ea : ni i + 1 = ni (i + 1) := ni_add _ 1
    cases t : tb (gI σ 0 1) i
    · rw [t] at hh
      have hF : ntF σ i q = q := by unfold ntF; rw [t]; rfl
      rw [hF] at hlen ⊢
      obtain ⟨m', y1, y2, y3, y4⟩ := ih (i + 1) fuel q m (by omega) (by omega) g h ha hlen
      refine ⟨m', ?_, y2, y3, y4⟩
      rw [← y1, L_X4_write_29]
      simp only [e, if_false, hO m g, gd_t, bdE hh, jn_e, b2i_f, if_true, lt9_e, ea]
    · rw [t] at hh
      have hF : ntF σ i q = (false, q.2 ++ (if q.1 then [] else [44]) ++ memN σ i) := by unfold ntF; rw [t]; rfl
      cases t2 : q.1
      · obtain ⟨m1, z1, z2, z3⟩ := c_put4 (k := 44) g h (by omega) (by omega)
        rw [show ni 44 = 44 from rfl] at z1
        have g1 := G_fr z3 g
        obtain ⟨m2, x1, x2, x3⟩ := c_mem4 hs hi6 g1 z2 (by rw [len_n]; omega) ((abs_4 hs z3).trans ha)
        have f2 := Fm_trans z3 x3
        rw [t2] at hF
        rw [hF] at hlen ⊢
        obtain ⟨m', y1, y2, y3, y4⟩ := ih (i + 1) fuel (false, q.2 ++ [44] ++ memN σ i) m2 (by omega) (by omega) (G_fr f2 g) x2 ((abs_4 hs f2).trans ha) hlen
        refine ⟨m', ?_, y2, Fm_trans f2 y3, y4⟩
        rw [← y1, L_X4_write_29]
        simp only [e, if_false, hO m g, gO45 g, gO45 g1, gd_t, bdE hh, jn_e, b2i_f, b2i_t, o10, if_true, lt9_e, ea, bdE z1, bdE x1]
      · obtain ⟨m2, x1, x2, x3⟩ := c_mem4 hs hi6 g h (by omega) ha
        rw [t2] at hF
        rw [hF] at hlen ⊢
        have x2' : NC4 (q.2 ++ [] ++ memN σ i) m2 := by
          rw [List.append_nil]
          exact x2
        obtain ⟨m', y1, y2, y3, y4⟩ := ih (i + 1) fuel (false, q.2 ++ [] ++ memN σ i) m2 (by omega) (by omega) (G_fr x3 g) x2' ((abs_4 hs x3).trans ha) hlen
        refine ⟨m', ?_, y2, Fm_trans x3 y3, y4⟩
        rw [← y1, L_X4_write_29]
        simp only [e, if_false, hO m g, gO45 g, gd_t, bdE hh, jn_e, b2i_f, b2i_t, o10, lt9_e, ea, bdE x1]
theorem nt_tail {n B : Nat} {σ : St} (wf : WF n B σ) (q : Bool × List Nat) : itn (ntF σ) 6 0 q = itn (ntF σ) n 0 q := itn_tail (WF_6 wf) (fun k h1 h2 => by
  unfold ntF
  rw [wf.1.2.1 k h1]
  rfl)
theorem c_note {n B s v c : Nat} {m : Mm} (hs : s = 16 ∨ s = 29) (g : G m) (wf : WF n B (absC m s)) (hv : gI (absC m s) 0 0 = ni v) (hv6 : v < 1000000) (hc : gI (absC m s) 0 7 = ni c) (hc6 : c < 1000000) :
    ∃ m', F_X4_write 45 s m = some ((), m') ∧ NC4 (noteN (absC m s) n v c) m' ∧ Fm A4 m m' ∧ (noteN (absC m s) n v c).length ≤ 39 := by
  have f0 : Fm A4 m (wI m 45 1 0) := Fm_wI (Fm_refl _ _) (.inl rfl)
  have g0 : G (wI m 45 1 0) := g
  have h0 : NC4 [] (wI m 45 1 0) := ⟨by rw [rIw, uf_at]; rfl, fun i hi => by simp only [List.length_nil] at hi; omega⟩
  obtain ⟨m1, x1, x2, x3⟩ := c_put4 (k := 118) g0 h0 (by simp only [List.length_nil]; omega) (by omega)
  have f1 := Fm_trans f0 x3
  have g1 := G_fr f1 g
  have hO : ∀ M, G M → okO M s 7 = true := fun M gM => by
    rcases hs with rfl | rfl
    · exact gO16 gM
    · exact gO29 gM
  have r0 : rI m1 s 0 = ni v := by rw [rI_o0 s m1 (by omega), abs_4 hs f1]; exact hv
  obtain ⟨m2, y1, y2, y3⟩ := c_number4 (v := v) hv6 g1 x2 (by rw [len_n]; simp only [List.length_nil]; omega)
  have f2 := Fm_trans f1 y3
  have g2 := G_fr f2 g
  have d6 := dgs_len hv6
  have l2 : ([] ++ [118] ++ dgs v).length ≤ 7 := by
    rw [List.length_append, List.nil_append, List.length_singleton]
    omega
  obtain ⟨m3, z1, z2, z3⟩ := c_put4 (k := 58) g2 y2 (by omega) (by omega)
  have f3 := Fm_trans f2 z3
  have g3 := G_fr f3 g
  have l3 : (headN v).length ≤ 8 := by
    unfold headN
    rw [len_n]
    omega
  obtain ⟨m4, w1, w2, w3, w4⟩ := c_ntL (K := fun v0 v1 m => gd (okO m v0 4) (bd (F_X4_put v0 (59 : Int32) m) fun r18 m19 => gd (okO m19 v1 7) (gd (okO m19 v0 4) (bd (F_X4_putNumber v0 (rI m19 v1 7) m19) fun r20 m21 => some ((), m21))))) (σ := absC m s) hs 6 0 NF (true, headN v) m3 (by omega) (by unfold NF; omega) g3 z2 (abs_4 hs f3) (by show (headN v).length ≤ 8 + 4 * 0; omega)
  rw [nt_tail wf] at w2 w4
  have f4 := Fm_trans f3 w3
  have g4 := G_fr f4 g
  obtain ⟨m5, u1, u2, u3⟩ := c_put4 (k := 59) g4 w2 (by omega) (by omega)
  have f5 := Fm_trans f4 u3
  have g5 := G_fr f5 g
  have r7 : rI m5 s 7 = ni c := by rw [rI_o0 s m5 (by omega), abs_4 hs f5]; exact hc
  obtain ⟨m6, t1, t2, t3⟩ := c_number4 (v := c) hc6 g5 u2 (by rw [len_n]; omega)
  refine ⟨m6, ?_, t2, Fm_trans f5 t3, ?_⟩
  · rw [show ni 118 = 118 from rfl] at x1
    rw [show ni 58 = 58 from rfl] at z1
    rw [show ni 59 = 59 from rfl] at u1
    rw [ni_0, b2i_t] at w1
    unfold F_X4_write
    simp only [gO45 g, gO45 g0, gO45 g1, gO45 g2, gd_t, lt9_e, bdE x1, hO m1 g1, r0, bdE y1, bdE z1]
    refine w1.trans ?_
    simp only [gO45 g4, gO45 g5, gd_t, bdE u1, hO m5 g5, r7, bdE t1]
  · have := dgs_len hc6
    unfold noteN
    rw [List.length_append, len_n]
    omega
