/-! L2: the constructors. -/
def lkI : List (Nat × Nat × Int32) → Nat → Nat → Int32
  | [], _, _ => 0
  | e :: W, b, j => if b = e.1 ∧ j = e.2.1 then e.2.2 else lkI W b j
def lkA : List (Nat × Nat) → Nat → Nat → Option Nat
  | [], _, _ => none
  | e :: W, b, j => if b = e.1 ∧ j < e.2 then some (e.1 + 1 + j) else lkA W b j
def lkR (D : List (Nat × Nat)) : List (Nat × Nat × Nat) → Nat → Nat → Option Nat
  | [], b, j => lkA D b j
  | e :: W, b, j => if b = e.1 ∧ j = e.2.1 then some e.2.2 else lkR D W b j
/-- a memory laid so far: cells L, slots s, ints W, references R, rows of rows D; cells of ex as in m0 -/
def Cs (ex : Nat → Prop) (m0 : Mm) (L : List (Nat × Nat)) (s : Nat) (W : List (Nat × Nat × Int32)) (R : List (Nat × Nat × Nat)) (D : List (Nat × Nat)) (m : Mm) : Prop :=
  sH m = L ∧ mS m = s ∧ (∀ b, ¬ ex b → (∀ j, rI m b j = lkI W b j) ∧ ∀ j, rL m b j = 0) ∧ (∀ b, ex b → rI m b = rI m0 b ∧ rL m b = rL m0 b) ∧ (∀ b j, rR m b j = lkR D R b j) ∧ (∀ e ∈ W, e.1 < L.length) ∧ (∀ e ∈ R, e.1 < L.length) ∧ (∀ e ∈ D, e.1 < L.length)
theorem lkI_0 {N b j : Nat} : ∀ {W : List (Nat × Nat × Int32)}, (∀ e ∈ W, e.1 < N) → N ≤ b → lkI W b j = 0 := by
  intro W
  induction W with
  | nil => intro _ _; rfl
  | cons e W ih =>
    intro h hb
    have := h e List.mem_cons_self
    rw [lkI, if_neg (by omega)]
    exact ih (fun e' he => h e' (List.mem_cons_of_mem _ he)) hb
theorem lkA_0 {N b j : Nat} : ∀ {W : List (Nat × Nat)}, (∀ e ∈ W, e.1 < N) → N ≤ b → lkA W b j = none := by
  intro W
  induction W with
  | nil => intro _ _; rfl
  | cons e W ih =>
    intro h hb
    have := h e List.mem_cons_self
    rw [lkA, if_neg (by omega)]
    exact ih (fun e' he => h e' (List.mem_cons_of_mem _ he)) hb
theorem lkR_A {D : List (Nat × Nat)} {N b j : Nat} : ∀ {W : List (Nat × Nat × Nat)}, (∀ e ∈ W, e.1 < N) → N ≤ b → lkR D W b j = lkA D b j := by
  intro W
  induction W with
  | nil => intro _ _; rfl
  | cons e W ih =>
    intro h hb
    have := h e List.mem_cons_self
    rw [lkR, if_neg (by omega)]
    exact ih (fun e' he => h e' (List.mem_cons_of_mem _ he)) hb
theorem lkR_c {D D' : List (Nat × Nat)} {b j : Nat} (h : lkA D b j = lkA D' b j) : ∀ (W : List (Nat × Nat × Nat)), lkR D W b j = lkR D' W b j := by
  intro W
  induction W with
  | nil => exact h
  | cons e W ih => rw [lkR, lkR, ih]
section CS
variable {ex : Nat → Prop} {m0 m : Mm} {L : List (Nat × Nat)} {s : Nat} {W : List (Nat × Nat × Int32)} {R : List (Nat × Nat × Nat)} {D : List (Nat × Nat)}
theorem cs_N {N : Nat} (h : Cs ex m0 L s W R D m) (e : L.length = N) : mN m = N := by
  unfold mN
  rw [h.1, e]
theorem cs_O {a c : Nat} (h : Cs ex m0 L s W R D m) (e : L[a]? = some (c, fN c)) : okO m a c = true := okO_of (by rw [h.1]; exact e)
theorem cs_R {a j v : Nat} (h : Cs ex m0 L s W R D m) (e : lkR D R a j = some v) : rR m a j = some v := by rw [h.2.2.2.2.1]; exact e
theorem cs_nw (k n : Nat) (h : Cs ex m0 L s W R D m) (hx : ∀ b, ex b → b < L.length) : Cs ex m0 (L ++ [(k, n)]) (s + n) W R D (nw m k n) := by
  obtain ⟨h1, h2, h3, h4, h5, h6, h7, h8⟩ := h
  have e : mN m = L.length := by unfold mN; rw [h1]
  have l : (L ++ [(k, n)]).length = L.length + 1 := by rw [List.length_append]; rfl
  refine ⟨by rw [sH_nw, h1], by show mS m + n = _; rw [h2], fun b hb => ?_, fun b hb => ?_, fun b j => ?_, fun e' he => by rw [l]; have := h6 e' he; omega, fun e' he => by rw [l]; have := h7 e' he; omega, fun e' he => by rw [l]; have := h8 e' he; omega⟩
  · by_cases q : b = mN m
    · refine ⟨fun j => ?_, fun j => ?_⟩
      · rw [lkI_0 h6 (by omega)]
        show (if b = mN m then (0 : Int32) else m.1 b j) = 0
        rw [if_pos q]
      · show (if b = mN m then (0 : Int64) else m.2.1 b j) = 0
        rw [if_pos q]
    · have z := nw_I (m := m) (k := k) (n := n) q
      rw [z.1, z.2.1]
      exact h3 b hb
  · have z := nw_I (m := m) (k := k) (n := n) (b := b) (by have := hx b hb; omega)
    rw [z.1, z.2.1]
    exact h4 b hb
  · by_cases q : b = mN m
    · rw [lkR_A h7 (by omega), lkA_0 h8 (by omega), q]
      exact nw_R0 m k n j
    · rw [(nw_I (m := m) (k := k) (n := n) q).2.2]
      exact h5 b j
theorem cs_nwG (N K : Nat) (h : Cs ex m0 L s W R D m) (hx : ∀ b, ex b → b < L.length) {a : Nat} (ha : L.length = a) : Cs ex m0 (L ++ (106, N) :: List.replicate N (100, K)) (s + (N + N * K)) W R ((a, N) :: D) (nwG m N K) := by
  obtain ⟨h1, h2, h3, h4, h5, h6, h7, h8⟩ := h
  have e : mN m = a := by unfold mN; rw [h1, ha]
  have l : (L ++ (106, N) :: List.replicate N (100, K)).length = a + (N + 1) := by rw [List.length_append, List.length_cons, List.length_replicate, ha]
  refine ⟨by show sH m ++ _ = _; rw [h1], by show mS m + _ = _; rw [h2], fun b hb => ?_, fun b hb => ?_, fun b j => ?_, fun e' he => by rw [l]; have := h6 e' he; omega, fun e' he => by rw [l]; have := h7 e' he; omega, fun e' he => ?_⟩
  · by_cases q : mN m ≤ b
    · refine ⟨fun j => ?_, fun j => ?_⟩
      · rw [lkI_0 h6 (by omega)]
        show (if mN m ≤ b then (0 : Int32) else m.1 b j) = 0
        rw [if_pos q]
      · show (if mN m ≤ b then (0 : Int64) else m.2.1 b j) = 0
        rw [if_pos q]
    · refine ⟨fun j => ?_, fun j => ?_⟩
      · show (if mN m ≤ b then (0 : Int32) else m.1 b j) = _
        rw [if_neg q]
        exact (h3 b hb).1 j
      · show (if mN m ≤ b then (0 : Int64) else m.2.1 b j) = _
        rw [if_neg q]
        exact (h3 b hb).2 j
  · have q : ¬ mN m ≤ b := by have := hx b hb; omega
    refine ⟨funext fun j => ?_, funext fun j => ?_⟩
    · show (if mN m ≤ b then (0 : Int32) else m.1 b j) = _
      rw [if_neg q]
      exact congrFun (h4 b hb).1 j
    · show (if mN m ≤ b then (0 : Int64) else m.2.1 b j) = _
      rw [if_neg q]
      exact congrFun (h4 b hb).2 j
  · show (if b = mN m then (if j < N then some (mN m + 1 + j) else none) else if mN m ≤ b then none else m.2.2.1 b j) = _
    rw [e]
    by_cases q : b = a
    · rw [if_pos q, lkR_A h7 (by omega), lkA]
      by_cases q2 : j < N
      · rw [if_pos q2, if_pos ⟨q, q2⟩]
      · rw [if_neg q2, if_neg (by omega), lkA_0 h8 (by omega)]
    · rw [if_neg q]
      have z : lkA ((a, N) :: D) b j = lkA D b j := by rw [lkA, if_neg (by dsimp only; omega)]
      rw [lkR_c z]
      by_cases q3 : a ≤ b
      · rw [if_pos q3, lkR_A h7 (by omega), lkA_0 h8 (by omega)]
      · rw [if_neg q3]
        exact h5 b j
  · rw [l]
    rcases List.mem_cons.mp he with rfl | he
    · dsimp only
      omega
    · have := h8 e' he
      omega
theorem cs_wI (a j : Nat) (v : Int32) (h : Cs ex m0 L s W R D m) (ha : a < L.length) (hx : ¬ ex a) : Cs ex m0 L s ((a, j, v) :: W) R D (wI m a j v) := by
  obtain ⟨h1, h2, h3, h4, h5, h6, h7, h8⟩ := h
  refine ⟨h1, h2, fun b hb => ⟨fun i => ?_, (h3 b hb).2⟩, fun b hb => ⟨?_, (h4 b hb).2⟩, h5, fun e' he => ?_, h7, h8⟩
  · show (if b = a ∧ i = j then v else m.1 b i) = (if b = a ∧ i = j then v else lkI W b i)
    rw [show m.1 b i = lkI W b i from (h3 b hb).1 i]
  · rw [rIw_ne (show b ≠ a from fun q => hx (by rw [← q]; exact hb))]
    exact (h4 b hb).1
  · rcases List.mem_cons.mp he with rfl | he
    · exact ha
    · exact h6 e' he
theorem cs_wR (a j v : Nat) (h : Cs ex m0 L s W R D m) (ha : a < L.length) : Cs ex m0 L s W ((a, j, v) :: R) D (wR m a j (some v)) := by
  obtain ⟨h1, h2, h3, h4, h5, h6, h7, h8⟩ := h
  refine ⟨h1, h2, h3, h4, fun b i => ?_, h6, fun e' he => ?_, h8⟩
  · show (if b = a ∧ i = j then some v else m.2.2.1 b i) = (if b = a ∧ i = j then some v else lkR D R b i)
    rw [show m.2.2.1 b i = lkR D R b i from h5 b i]
  · rcases List.mem_cons.mp he with rfl | he
    · exact ha
    · exact h7 e' he
end CS
theorem gdK {α : Type} {a : Nat} (h : a < K9) (x : Option α) : gd (decide (a < K9)) x = x := by rw [decide_eq_true h, gd_t]
def cl_0 : List (Nat × Nat) := []
def wl_0 : List (Nat × Nat × Int32) := []
def rl_0 : List (Nat × Nat × Nat) := []
def dl_0 : List (Nat × Nat) := []
def cl_1 : List (Nat × Nat) := cl_0 ++ [(11, 15)]
theorem cn_1 : cl_1.length = 1 := by decide +kernel
def cl_2 : List (Nat × Nat) := cl_1 ++ [(9, 8)]
theorem cn_2 : cl_2.length = 2 := by decide +kernel
def cl_3 : List (Nat × Nat) := cl_2 ++ [(102, 600)]
theorem cn_3 : cl_3.length = 3 := by decide +kernel
def rl_1 : List (Nat × Nat × Nat) := (1, 0, 2) :: rl_0
def wl_1 : List (Nat × Nat × Int32) := (1, 7, -1) :: wl_0
theorem k9_2 {m : Mm} (h_m : Cs (fun _ => False) mE cl_2 23 wl_0 rl_0 dl_0 m) : ∃ m', F_X9_init 1 m = some ((), m') ∧ Cs (fun _ => False) mE cl_3 623 wl_1 rl_1 dl_0 m' := by
  unfold F_X9_init
  have n_m : mN m = 2 := cs_N h_m cn_2
  rw [n_m, gdK (show 2 + 1 < K9 by unfold K9; omega), lt9_e]
  have h_u1 : Cs (fun _ => False) mE cl_3 623 wl_0 rl_0 dl_0 (nw m 102 600) := cs_nw 102 600 h_m (by rw [cn_2]; exact fun _ z => False.elim z)
  generalize nw m 102 600 = u1 at h_u1 ⊢
  rw [cs_O h_u1 (a := 1) (c := 9) (by decide +kernel), gd_t, lt9_e]
  have h_u2 : Cs (fun _ => False) mE cl_3 623 wl_0 rl_1 dl_0 (wR u1 1 0 (some 2)) := cs_wR 1 0 2 h_u1 (by rw [cn_3]; omega)
  generalize wR u1 1 0 (some 2) = u2 at h_u2 ⊢
  rw [cs_O h_u2 (a := 1) (c := 9) (by decide +kernel), gd_t, lt9_e]
  have h_u3 : Cs (fun _ => False) mE cl_3 623 wl_1 rl_1 dl_0 (wI u2 1 7 (-1)) := cs_wI 1 7 (-1) h_u2 (by rw [cn_3]; omega) (id)
  generalize wI u2 1 7 (-1) = u3 at h_u3 ⊢
  exact ⟨u3, rfl, h_u3⟩
def rl_2 : List (Nat × Nat × Nat) := (0, 0, 1) :: rl_1
def cl_4 : List (Nat × Nat) := cl_3 ++ [(1, 3)]
theorem cn_4 : cl_4.length = 4 := by decide +kernel
def wl_2 : List (Nat × Nat × Int32) := (3, 2, 30) :: wl_1
theorem k9_3 {m : Mm} (h_m : Cs (fun _ => False) mE cl_4 626 wl_1 rl_2 dl_0 m) : ∃ m', F_X1_init 3 m = some ((), m') ∧ Cs (fun _ => False) mE cl_4 626 wl_2 rl_2 dl_0 m' := by
  unfold F_X1_init
  rw [cs_O h_m (a := 3) (c := 1) (by decide +kernel), gd_t, lt9_e]
  have h_u1 : Cs (fun _ => False) mE cl_4 626 wl_2 rl_2 dl_0 (wI m 3 2 (30)) := cs_wI 3 2 (30) h_m (by rw [cn_4]; omega) (id)
  generalize wI m 3 2 (30) = u1 at h_u1 ⊢
  exact ⟨u1, rfl, h_u1⟩
def rl_3 : List (Nat × Nat × Nat) := (0, 1, 3) :: rl_2
def cl_5 : List (Nat × Nat) := cl_4 ++ [(3, 5)]
theorem cn_5 : cl_5.length = 5 := by decide +kernel
def cl_6 : List (Nat × Nat) := cl_5 ++ [(100, 150)]
theorem cn_6 : cl_6.length = 6 := by decide +kernel
def rl_4 : List (Nat × Nat × Nat) := (4, 0, 5) :: rl_3
def cl_7 : List (Nat × Nat) := cl_6 ++ [(100, 150)]
theorem cn_7 : cl_7.length = 7 := by decide +kernel
def rl_5 : List (Nat × Nat × Nat) := (4, 1, 6) :: rl_4
def cl_8 : List (Nat × Nat) := cl_7 ++ [(100, 150)]
theorem cn_8 : cl_8.length = 8 := by decide +kernel
def rl_6 : List (Nat × Nat × Nat) := (4, 2, 7) :: rl_5
def wl_3 : List (Nat × Nat × Int32) := (5, 0, 1) :: wl_2
def wl_4 : List (Nat × Nat × Int32) := (4, 3, 1) :: wl_3
theorem k9_5 {m : Mm} (h_m : Cs (fun _ => False) mE cl_8 1081 wl_2 rl_6 dl_0 m) : ∃ m', F_X3_forget 4 m = some ((), m') ∧ Cs (fun _ => False) mE cl_8 1081 wl_4 rl_6 dl_0 m' := by
  unfold F_X3_forget
  rw [cs_O h_m (a := 4) (c := 3) (by decide +kernel), gd_t, show rR m 4 0 = some 5 from cs_R h_m (by decide +kernel), oc_s]
  rw [show okA m 100 5 0 = true from okA_lit (i := 0) (n := 150) (by rw [h_m.1]; decide +kernel) (by omega) (by omega), gd_t, lt9_e, show ix (0 : Int32) = 0 from by decide]
  have h_u1 : Cs (fun _ => False) mE cl_8 1081 wl_3 rl_6 dl_0 (wI m 5 0 (1)) := cs_wI 5 0 (1) h_m (by rw [cn_8]; omega) (id)
  generalize wI m 5 0 (1) = u1 at h_u1 ⊢
  rw [cs_O h_u1 (a := 4) (c := 3) (by decide +kernel), gd_t, lt9_e]
  have h_u2 : Cs (fun _ => False) mE cl_8 1081 wl_4 rl_6 dl_0 (wI u1 4 3 (1)) := cs_wI 4 3 (1) h_u1 (by rw [cn_8]; omega) (id)
  generalize wI u1 4 3 (1) = u2 at h_u2 ⊢
  exact ⟨u2, rfl, h_u2⟩
theorem k9_4 {m : Mm} (h_m : Cs (fun _ => False) mE cl_5 631 wl_2 rl_3 dl_0 m) : ∃ m', F_X3_init 4 m = some ((), m') ∧ Cs (fun _ => False) mE cl_8 1081 wl_4 rl_6 dl_0 m' := by
  unfold F_X3_init
  have n_m : mN m = 5 := cs_N h_m cn_5
  rw [n_m, gdK (show 5 + 1 < K9 by unfold K9; omega), lt9_e]
  have h_u1 : Cs (fun _ => False) mE cl_6 781 wl_2 rl_3 dl_0 (nw m 100 150) := cs_nw 100 150 h_m (by rw [cn_5]; exact fun _ z => False.elim z)
  generalize nw m 100 150 = u1 at h_u1 ⊢
  rw [cs_O h_u1 (a := 4) (c := 3) (by decide +kernel), gd_t, lt9_e]
  have h_u2 : Cs (fun _ => False) mE cl_6 781 wl_2 rl_4 dl_0 (wR u1 4 0 (some 5)) := cs_wR 4 0 5 h_u1 (by rw [cn_6]; omega)
  generalize wR u1 4 0 (some 5) = u2 at h_u2 ⊢
  have n_u2 : mN u2 = 6 := cs_N h_u2 cn_6
  rw [n_u2, gdK (show 6 + 1 < K9 by unfold K9; omega), lt9_e]
  have h_u3 : Cs (fun _ => False) mE cl_7 931 wl_2 rl_4 dl_0 (nw u2 100 150) := cs_nw 100 150 h_u2 (by rw [cn_6]; exact fun _ z => False.elim z)
  generalize nw u2 100 150 = u3 at h_u3 ⊢
  rw [cs_O h_u3 (a := 4) (c := 3) (by decide +kernel), gd_t, lt9_e]
  have h_u4 : Cs (fun _ => False) mE cl_7 931 wl_2 rl_5 dl_0 (wR u3 4 1 (some 6)) := cs_wR 4 1 6 h_u3 (by rw [cn_7]; omega)
  generalize wR u3 4 1 (some 6) = u4 at h_u4 ⊢
  have n_u4 : mN u4 = 7 := cs_N h_u4 cn_7
  rw [n_u4, gdK (show 7 + 1 < K9 by unfold K9; omega), lt9_e]
  have h_u5 : Cs (fun _ => False) mE cl_8 1081 wl_2 rl_5 dl_0 (nw u4 100 150) := cs_nw 100 150 h_u4 (by rw [cn_7]; exact fun _ z => False.elim z)
  generalize nw u4 100 150 = u5 at h_u5 ⊢
  rw [cs_O h_u5 (a := 4) (c := 3) (by decide +kernel), gd_t, lt9_e]
  have h_u6 : Cs (fun _ => False) mE cl_8 1081 wl_2 rl_6 dl_0 (wR u5 4 2 (some 7)) := cs_wR 4 2 7 h_u5 (by rw [cn_8]; omega)
  generalize wR u5 4 2 (some 7) = u6 at h_u6 ⊢
  rw [cs_O h_u6 (a := 4) (c := 3) (by decide +kernel), gd_t]
  obtain ⟨u7, x_u7, h_u7⟩ := k9_5 h_u6
  rw [bdE x_u7]
  exact ⟨u7, rfl, h_u7⟩
def rl_7 : List (Nat × Nat × Nat) := (0, 2, 4) :: rl_6
def cl_9 : List (Nat × Nat) := cl_8 ++ [(10, 8)]
theorem cn_9 : cl_9.length = 9 := by decide +kernel
def cl_10 : List (Nat × Nat) := cl_9 ++ [(100, 150)]
theorem cn_10 : cl_10.length = 10 := by decide +kernel
def rl_8 : List (Nat × Nat × Nat) := (8, 0, 9) :: rl_7
def cl_11 : List (Nat × Nat) := cl_10 ++ [(100, 150)]
theorem cn_11 : cl_11.length = 11 := by decide +kernel
def rl_9 : List (Nat × Nat × Nat) := (8, 1, 10) :: rl_8
def cl_12 : List (Nat × Nat) := cl_11 ++ [(100, 150)]
theorem cn_12 : cl_12.length = 12 := by decide +kernel
def rl_10 : List (Nat × Nat × Nat) := (8, 2, 11) :: rl_9
theorem k9_6 {m : Mm} (h_m : Cs (fun _ => False) mE cl_9 1089 wl_4 rl_7 dl_0 m) : ∃ m', F_X10_init 8 m = some ((), m') ∧ Cs (fun _ => False) mE cl_12 1539 wl_4 rl_10 dl_0 m' := by
  unfold F_X10_init
  have n_m : mN m = 9 := cs_N h_m cn_9
  rw [n_m, gdK (show 9 + 1 < K9 by unfold K9; omega), lt9_e]
  have h_u1 : Cs (fun _ => False) mE cl_10 1239 wl_4 rl_7 dl_0 (nw m 100 150) := cs_nw 100 150 h_m (by rw [cn_9]; exact fun _ z => False.elim z)
  generalize nw m 100 150 = u1 at h_u1 ⊢
  rw [cs_O h_u1 (a := 8) (c := 10) (by decide +kernel), gd_t, lt9_e]
  have h_u2 : Cs (fun _ => False) mE cl_10 1239 wl_4 rl_8 dl_0 (wR u1 8 0 (some 9)) := cs_wR 8 0 9 h_u1 (by rw [cn_10]; omega)
  generalize wR u1 8 0 (some 9) = u2 at h_u2 ⊢
  have n_u2 : mN u2 = 10 := cs_N h_u2 cn_10
  rw [n_u2, gdK (show 10 + 1 < K9 by unfold K9; omega), lt9_e]
  have h_u3 : Cs (fun _ => False) mE cl_11 1389 wl_4 rl_8 dl_0 (nw u2 100 150) := cs_nw 100 150 h_u2 (by rw [cn_10]; exact fun _ z => False.elim z)
  generalize nw u2 100 150 = u3 at h_u3 ⊢
  rw [cs_O h_u3 (a := 8) (c := 10) (by decide +kernel), gd_t, lt9_e]
  have h_u4 : Cs (fun _ => False) mE cl_11 1389 wl_4 rl_9 dl_0 (wR u3 8 1 (some 10)) := cs_wR 8 1 10 h_u3 (by rw [cn_11]; omega)
  generalize wR u3 8 1 (some 10) = u4 at h_u4 ⊢
  have n_u4 : mN u4 = 11 := cs_N h_u4 cn_11
  rw [n_u4, gdK (show 11 + 1 < K9 by unfold K9; omega), lt9_e]
  have h_u5 : Cs (fun _ => False) mE cl_12 1539 wl_4 rl_9 dl_0 (nw u4 100 150) := cs_nw 100 150 h_u4 (by rw [cn_11]; exact fun _ z => False.elim z)
  generalize nw u4 100 150 = u5 at h_u5 ⊢
  rw [cs_O h_u5 (a := 8) (c := 10) (by decide +kernel), gd_t, lt9_e]
  have h_u6 : Cs (fun _ => False) mE cl_12 1539 wl_4 rl_10 dl_0 (wR u5 8 2 (some 11)) := cs_wR 8 2 11 h_u5 (by rw [cn_12]; omega)
  generalize wR u5 8 2 (some 11) = u6 at h_u6 ⊢
  exact ⟨u6, rfl, h_u6⟩
def rl_11 : List (Nat × Nat × Nat) := (0, 3, 8) :: rl_10
def cl_13 : List (Nat × Nat) := cl_12 ++ [(0, 6)]
theorem cn_13 : cl_13.length = 13 := by decide +kernel
def cl_14 : List (Nat × Nat) := cl_13 ++ [(100, 6)]
theorem cn_14 : cl_14.length = 14 := by decide +kernel
def rl_12 : List (Nat × Nat × Nat) := (12, 5, 13) :: rl_11
theorem k9_7 {m : Mm} (h_m : Cs (fun _ => False) mE cl_13 1545 wl_4 rl_11 dl_0 m) : ∃ m', F_X0_init 12 m = some ((), m') ∧ Cs (fun _ => False) mE cl_14 1551 wl_4 rl_12 dl_0 m' := by
  unfold F_X0_init
  have n_m : mN m = 13 := cs_N h_m cn_13
  rw [n_m, gdK (show 13 + 1 < K9 by unfold K9; omega), lt9_e]
  have h_u1 : Cs (fun _ => False) mE cl_14 1551 wl_4 rl_11 dl_0 (nw m 100 6) := cs_nw 100 6 h_m (by rw [cn_13]; exact fun _ z => False.elim z)
  generalize nw m 100 6 = u1 at h_u1 ⊢
  rw [cs_O h_u1 (a := 12) (c := 0) (by decide +kernel), gd_t, lt9_e]
  have h_u2 : Cs (fun _ => False) mE cl_14 1551 wl_4 rl_12 dl_0 (wR u1 12 5 (some 13)) := cs_wR 12 5 13 h_u1 (by rw [cn_14]; omega)
  generalize wR u1 12 5 (some 13) = u2 at h_u2 ⊢
  exact ⟨u2, rfl, h_u2⟩
def rl_13 : List (Nat × Nat × Nat) := (0, 4, 12) :: rl_12
def cl_15 : List (Nat × Nat) := cl_14 ++ [(6, 4)]
theorem cn_15 : cl_15.length = 15 := by decide +kernel
def cl_16 : List (Nat × Nat) := cl_15 ++ [(100, 6)]
theorem cn_16 : cl_16.length = 16 := by decide +kernel
def rl_14 : List (Nat × Nat × Nat) := (14, 2, 15) :: rl_13
def rl_15 : List (Nat × Nat × Nat) := (14, 0, 3) :: rl_14
def rl_16 : List (Nat × Nat × Nat) := (14, 1, 4) :: rl_15
theorem k9_8 {m : Mm} (h_m : Cs (fun _ => False) mE cl_15 1555 wl_4 rl_13 dl_0 m) : ∃ m', F_X6_init 14 3 4 m = some ((), m') ∧ Cs (fun _ => False) mE cl_16 1561 wl_4 rl_16 dl_0 m' := by
  unfold F_X6_init
  have n_m : mN m = 15 := cs_N h_m cn_15
  rw [n_m, gdK (show 15 + 1 < K9 by unfold K9; omega), lt9_e]
  have h_u1 : Cs (fun _ => False) mE cl_16 1561 wl_4 rl_13 dl_0 (nw m 100 6) := cs_nw 100 6 h_m (by rw [cn_15]; exact fun _ z => False.elim z)
  generalize nw m 100 6 = u1 at h_u1 ⊢
  rw [cs_O h_u1 (a := 14) (c := 6) (by decide +kernel), gd_t, lt9_e]
  have h_u2 : Cs (fun _ => False) mE cl_16 1561 wl_4 rl_14 dl_0 (wR u1 14 2 (some 15)) := cs_wR 14 2 15 h_u1 (by rw [cn_16]; omega)
  generalize wR u1 14 2 (some 15) = u2 at h_u2 ⊢
  rw [cs_O h_u2 (a := 14) (c := 6) (by decide +kernel), gd_t, lt9_e]
  have h_u3 : Cs (fun _ => False) mE cl_16 1561 wl_4 rl_15 dl_0 (wR u2 14 0 (some 3)) := cs_wR 14 0 3 h_u2 (by rw [cn_16]; omega)
  generalize wR u2 14 0 (some 3) = u3 at h_u3 ⊢
  rw [cs_O h_u3 (a := 14) (c := 6) (by decide +kernel), gd_t, lt9_e]
  have h_u4 : Cs (fun _ => False) mE cl_16 1561 wl_4 rl_16 dl_0 (wR u3 14 1 (some 4)) := cs_wR 14 1 4 h_u3 (by rw [cn_16]; omega)
  generalize wR u3 14 1 (some 4) = u4 at h_u4 ⊢
  exact ⟨u4, rfl, h_u4⟩
def rl_17 : List (Nat × Nat × Nat) := (0, 5, 14) :: rl_16
def cl_17 : List (Nat × Nat) := cl_16 ++ [(7, 20)]
theorem cn_17 : cl_17.length = 17 := by decide +kernel
def cl_18 : List (Nat × Nat) := cl_17 ++ [(100, 6)]
theorem cn_18 : cl_18.length = 18 := by decide +kernel
def rl_18 : List (Nat × Nat × Nat) := (16, 8, 17) :: rl_17
def cl_19 : List (Nat × Nat) := cl_18 ++ [(100, 6)]
theorem cn_19 : cl_19.length = 19 := by decide +kernel
def rl_19 : List (Nat × Nat × Nat) := (16, 9, 18) :: rl_18
def cl_20 : List (Nat × Nat) := cl_19 ++ [(100, 6)]
theorem cn_20 : cl_20.length = 20 := by decide +kernel
def rl_20 : List (Nat × Nat × Nat) := (16, 10, 19) :: rl_19
def cl_21 : List (Nat × Nat) := cl_20 ++ [(100, 36)]
theorem cn_21 : cl_21.length = 21 := by decide +kernel
def rl_21 : List (Nat × Nat × Nat) := (16, 11, 20) :: rl_20
def cl_22 : List (Nat × Nat) := cl_21 ++ [(100, 6)]
theorem cn_22 : cl_22.length = 22 := by decide +kernel
def rl_22 : List (Nat × Nat × Nat) := (16, 12, 21) :: rl_21
def cl_23 : List (Nat × Nat) := cl_22 ++ [(100, 48)]
theorem cn_23 : cl_23.length = 23 := by decide +kernel
def rl_23 : List (Nat × Nat × Nat) := (16, 13, 22) :: rl_22
def cl_24 : List (Nat × Nat) := cl_23 ++ [(100, 6)]
theorem cn_24 : cl_24.length = 24 := by decide +kernel
def rl_24 : List (Nat × Nat × Nat) := (16, 14, 23) :: rl_23
def cl_25 : List (Nat × Nat) := cl_24 ++ [(100, 30)]
theorem cn_25 : cl_25.length = 25 := by decide +kernel
def rl_25 : List (Nat × Nat × Nat) := (16, 15, 24) :: rl_24
def cl_26 : List (Nat × Nat) := cl_25 ++ [(100, 30)]
theorem cn_26 : cl_26.length = 26 := by decide +kernel
def rl_26 : List (Nat × Nat × Nat) := (16, 16, 25) :: rl_25
def cl_27 : List (Nat × Nat) := cl_26 ++ [(100, 30)]
theorem cn_27 : cl_27.length = 27 := by decide +kernel
def rl_27 : List (Nat × Nat × Nat) := (16, 17, 26) :: rl_26
def cl_28 : List (Nat × Nat) := cl_27 ++ [(101, 6)]
theorem cn_28 : cl_28.length = 28 := by decide +kernel
def rl_28 : List (Nat × Nat × Nat) := (16, 18, 27) :: rl_27
def cl_29 : List (Nat × Nat) := cl_28 ++ [(101, 384)]
theorem cn_29 : cl_29.length = 29 := by decide +kernel
def rl_29 : List (Nat × Nat × Nat) := (16, 19, 28) :: rl_28
theorem k9_9 {m : Mm} (h_m : Cs (fun _ => False) mE cl_17 1581 wl_4 rl_17 dl_0 m) : ∃ m', F_X7_init 16 m = some ((), m') ∧ Cs (fun _ => False) mE cl_29 2175 wl_4 rl_29 dl_0 m' := by
  unfold F_X7_init
  have n_m : mN m = 17 := cs_N h_m cn_17
  rw [n_m, gdK (show 17 + 1 < K9 by unfold K9; omega), lt9_e]
  have h_u1 : Cs (fun _ => False) mE cl_18 1587 wl_4 rl_17 dl_0 (nw m 100 6) := cs_nw 100 6 h_m (by rw [cn_17]; exact fun _ z => False.elim z)
  generalize nw m 100 6 = u1 at h_u1 ⊢
  rw [cs_O h_u1 (a := 16) (c := 7) (by decide +kernel), gd_t, lt9_e]
  have h_u2 : Cs (fun _ => False) mE cl_18 1587 wl_4 rl_18 dl_0 (wR u1 16 8 (some 17)) := cs_wR 16 8 17 h_u1 (by rw [cn_18]; omega)
  generalize wR u1 16 8 (some 17) = u2 at h_u2 ⊢
  have n_u2 : mN u2 = 18 := cs_N h_u2 cn_18
  rw [n_u2, gdK (show 18 + 1 < K9 by unfold K9; omega), lt9_e]
  have h_u3 : Cs (fun _ => False) mE cl_19 1593 wl_4 rl_18 dl_0 (nw u2 100 6) := cs_nw 100 6 h_u2 (by rw [cn_18]; exact fun _ z => False.elim z)
  generalize nw u2 100 6 = u3 at h_u3 ⊢
  rw [cs_O h_u3 (a := 16) (c := 7) (by decide +kernel), gd_t, lt9_e]
  have h_u4 : Cs (fun _ => False) mE cl_19 1593 wl_4 rl_19 dl_0 (wR u3 16 9 (some 18)) := cs_wR 16 9 18 h_u3 (by rw [cn_19]; omega)
  generalize wR u3 16 9 (some 18) = u4 at h_u4 ⊢
  have n_u4 : mN u4 = 19 := cs_N h_u4 cn_19
  rw [n_u4, gdK (show 19 + 1 < K9 by unfold K9; omega), lt9_e]
  have h_u5 : Cs (fun _ => False) mE cl_20 1599 wl_4 rl_19 dl_0 (nw u4 100 6) := cs_nw 100 6 h_u4 (by rw [cn_19]; exact fun _ z => False.elim z)
  generalize nw u4 100 6 = u5 at h_u5 ⊢
  rw [cs_O h_u5 (a := 16) (c := 7) (by decide +kernel), gd_t, lt9_e]
  have h_u6 : Cs (fun _ => False) mE cl_20 1599 wl_4 rl_20 dl_0 (wR u5 16 10 (some 19)) := cs_wR 16 10 19 h_u5 (by rw [cn_20]; omega)
  generalize wR u5 16 10 (some 19) = u6 at h_u6 ⊢
  have n_u6 : mN u6 = 20 := cs_N h_u6 cn_20
  rw [n_u6, gdK (show 20 + 1 < K9 by unfold K9; omega), lt9_e]
  have h_u7 : Cs (fun _ => False) mE cl_21 1635 wl_4 rl_20 dl_0 (nw u6 100 36) := cs_nw 100 36 h_u6 (by rw [cn_20]; exact fun _ z => False.elim z)
  generalize nw u6 100 36 = u7 at h_u7 ⊢
  rw [cs_O h_u7 (a := 16) (c := 7) (by decide +kernel), gd_t, lt9_e]
  have h_u8 : Cs (fun _ => False) mE cl_21 1635 wl_4 rl_21 dl_0 (wR u7 16 11 (some 20)) := cs_wR 16 11 20 h_u7 (by rw [cn_21]; omega)
  generalize wR u7 16 11 (some 20) = u8 at h_u8 ⊢
  have n_u8 : mN u8 = 21 := cs_N h_u8 cn_21
  rw [n_u8, gdK (show 21 + 1 < K9 by unfold K9; omega), lt9_e]
  have h_u9 : Cs (fun _ => False) mE cl_22 1641 wl_4 rl_21 dl_0 (nw u8 100 6) := cs_nw 100 6 h_u8 (by rw [cn_21]; exact fun _ z => False.elim z)
  generalize nw u8 100 6 = u9 at h_u9 ⊢
  rw [cs_O h_u9 (a := 16) (c := 7) (by decide +kernel), gd_t, lt9_e]
  have h_u10 : Cs (fun _ => False) mE cl_22 1641 wl_4 rl_22 dl_0 (wR u9 16 12 (some 21)) := cs_wR 16 12 21 h_u9 (by rw [cn_22]; omega)
  generalize wR u9 16 12 (some 21) = u10 at h_u10 ⊢
  have n_u10 : mN u10 = 22 := cs_N h_u10 cn_22
  rw [n_u10, gdK (show 22 + 1 < K9 by unfold K9; omega), lt9_e]
  have h_u11 : Cs (fun _ => False) mE cl_23 1689 wl_4 rl_22 dl_0 (nw u10 100 48) := cs_nw 100 48 h_u10 (by rw [cn_22]; exact fun _ z => False.elim z)
  generalize nw u10 100 48 = u11 at h_u11 ⊢
  rw [cs_O h_u11 (a := 16) (c := 7) (by decide +kernel), gd_t, lt9_e]
  have h_u12 : Cs (fun _ => False) mE cl_23 1689 wl_4 rl_23 dl_0 (wR u11 16 13 (some 22)) := cs_wR 16 13 22 h_u11 (by rw [cn_23]; omega)
  generalize wR u11 16 13 (some 22) = u12 at h_u12 ⊢
  have n_u12 : mN u12 = 23 := cs_N h_u12 cn_23
  rw [n_u12, gdK (show 23 + 1 < K9 by unfold K9; omega), lt9_e]
  have h_u13 : Cs (fun _ => False) mE cl_24 1695 wl_4 rl_23 dl_0 (nw u12 100 6) := cs_nw 100 6 h_u12 (by rw [cn_23]; exact fun _ z => False.elim z)
  generalize nw u12 100 6 = u13 at h_u13 ⊢
  rw [cs_O h_u13 (a := 16) (c := 7) (by decide +kernel), gd_t, lt9_e]
  have h_u14 : Cs (fun _ => False) mE cl_24 1695 wl_4 rl_24 dl_0 (wR u13 16 14 (some 23)) := cs_wR 16 14 23 h_u13 (by rw [cn_24]; omega)
  generalize wR u13 16 14 (some 23) = u14 at h_u14 ⊢
  have n_u14 : mN u14 = 24 := cs_N h_u14 cn_24
  rw [n_u14, gdK (show 24 + 1 < K9 by unfold K9; omega), lt9_e]
  have h_u15 : Cs (fun _ => False) mE cl_25 1725 wl_4 rl_24 dl_0 (nw u14 100 30) := cs_nw 100 30 h_u14 (by rw [cn_24]; exact fun _ z => False.elim z)
  generalize nw u14 100 30 = u15 at h_u15 ⊢
  rw [cs_O h_u15 (a := 16) (c := 7) (by decide +kernel), gd_t, lt9_e]
  have h_u16 : Cs (fun _ => False) mE cl_25 1725 wl_4 rl_25 dl_0 (wR u15 16 15 (some 24)) := cs_wR 16 15 24 h_u15 (by rw [cn_25]; omega)
  generalize wR u15 16 15 (some 24) = u16 at h_u16 ⊢
  have n_u16 : mN u16 = 25 := cs_N h_u16 cn_25
  rw [n_u16, gdK (show 25 + 1 < K9 by unfold K9; omega), lt9_e]
  have h_u17 : Cs (fun _ => False) mE cl_26 1755 wl_4 rl_25 dl_0 (nw u16 100 30) := cs_nw 100 30 h_u16 (by rw [cn_25]; exact fun _ z => False.elim z)
  generalize nw u16 100 30 = u17 at h_u17 ⊢
  rw [cs_O h_u17 (a := 16) (c := 7) (by decide +kernel), gd_t, lt9_e]
  have h_u18 : Cs (fun _ => False) mE cl_26 1755 wl_4 rl_26 dl_0 (wR u17 16 16 (some 25)) := cs_wR 16 16 25 h_u17 (by rw [cn_26]; omega)
  generalize wR u17 16 16 (some 25) = u18 at h_u18 ⊢
  have n_u18 : mN u18 = 26 := cs_N h_u18 cn_26
  rw [n_u18, gdK (show 26 + 1 < K9 by unfold K9; omega), lt9_e]
  have h_u19 : Cs (fun _ => False) mE cl_27 1785 wl_4 rl_26 dl_0 (nw u18 100 30) := cs_nw 100 30 h_u18 (by rw [cn_26]; exact fun _ z => False.elim z)
  generalize nw u18 100 30 = u19 at h_u19 ⊢
  rw [cs_O h_u19 (a := 16) (c := 7) (by decide +kernel), gd_t, lt9_e]
  have h_u20 : Cs (fun _ => False) mE cl_27 1785 wl_4 rl_27 dl_0 (wR u19 16 17 (some 26)) := cs_wR 16 17 26 h_u19 (by rw [cn_27]; omega)
  generalize wR u19 16 17 (some 26) = u20 at h_u20 ⊢
  have n_u20 : mN u20 = 27 := cs_N h_u20 cn_27
  rw [n_u20, gdK (show 27 + 1 < K9 by unfold K9; omega), lt9_e]
  have h_u21 : Cs (fun _ => False) mE cl_28 1791 wl_4 rl_27 dl_0 (nw u20 101 6) := cs_nw 101 6 h_u20 (by rw [cn_27]; exact fun _ z => False.elim z)
  generalize nw u20 101 6 = u21 at h_u21 ⊢
  rw [cs_O h_u21 (a := 16) (c := 7) (by decide +kernel), gd_t, lt9_e]
  have h_u22 : Cs (fun _ => False) mE cl_28 1791 wl_4 rl_28 dl_0 (wR u21 16 18 (some 27)) := cs_wR 16 18 27 h_u21 (by rw [cn_28]; omega)
  generalize wR u21 16 18 (some 27) = u22 at h_u22 ⊢
  have n_u22 : mN u22 = 28 := cs_N h_u22 cn_28
  rw [n_u22, gdK (show 28 + 1 < K9 by unfold K9; omega), lt9_e]
  have h_u23 : Cs (fun _ => False) mE cl_29 2175 wl_4 rl_28 dl_0 (nw u22 101 384) := cs_nw 101 384 h_u22 (by rw [cn_28]; exact fun _ z => False.elim z)
  generalize nw u22 101 384 = u23 at h_u23 ⊢
  rw [cs_O h_u23 (a := 16) (c := 7) (by decide +kernel), gd_t, lt9_e]
  have h_u24 : Cs (fun _ => False) mE cl_29 2175 wl_4 rl_29 dl_0 (wR u23 16 19 (some 28)) := cs_wR 16 19 28 h_u23 (by rw [cn_29]; omega)
  generalize wR u23 16 19 (some 28) = u24 at h_u24 ⊢
  exact ⟨u24, rfl, h_u24⟩
def rl_30 : List (Nat × Nat × Nat) := (0, 6, 16) :: rl_29
def cl_30 : List (Nat × Nat) := cl_29 ++ [(7, 20)]
theorem cn_30 : cl_30.length = 30 := by decide +kernel
def cl_31 : List (Nat × Nat) := cl_30 ++ [(100, 6)]
theorem cn_31 : cl_31.length = 31 := by decide +kernel
def rl_31 : List (Nat × Nat × Nat) := (29, 8, 30) :: rl_30
def cl_32 : List (Nat × Nat) := cl_31 ++ [(100, 6)]
theorem cn_32 : cl_32.length = 32 := by decide +kernel
def rl_32 : List (Nat × Nat × Nat) := (29, 9, 31) :: rl_31
def cl_33 : List (Nat × Nat) := cl_32 ++ [(100, 6)]
theorem cn_33 : cl_33.length = 33 := by decide +kernel
def rl_33 : List (Nat × Nat × Nat) := (29, 10, 32) :: rl_32
def cl_34 : List (Nat × Nat) := cl_33 ++ [(100, 36)]
theorem cn_34 : cl_34.length = 34 := by decide +kernel
def rl_34 : List (Nat × Nat × Nat) := (29, 11, 33) :: rl_33
def cl_35 : List (Nat × Nat) := cl_34 ++ [(100, 6)]
theorem cn_35 : cl_35.length = 35 := by decide +kernel
def rl_35 : List (Nat × Nat × Nat) := (29, 12, 34) :: rl_34
def cl_36 : List (Nat × Nat) := cl_35 ++ [(100, 48)]
theorem cn_36 : cl_36.length = 36 := by decide +kernel
def rl_36 : List (Nat × Nat × Nat) := (29, 13, 35) :: rl_35
def cl_37 : List (Nat × Nat) := cl_36 ++ [(100, 6)]
theorem cn_37 : cl_37.length = 37 := by decide +kernel
def rl_37 : List (Nat × Nat × Nat) := (29, 14, 36) :: rl_36
def cl_38 : List (Nat × Nat) := cl_37 ++ [(100, 30)]
theorem cn_38 : cl_38.length = 38 := by decide +kernel
def rl_38 : List (Nat × Nat × Nat) := (29, 15, 37) :: rl_37
def cl_39 : List (Nat × Nat) := cl_38 ++ [(100, 30)]
theorem cn_39 : cl_39.length = 39 := by decide +kernel
def rl_39 : List (Nat × Nat × Nat) := (29, 16, 38) :: rl_38
def cl_40 : List (Nat × Nat) := cl_39 ++ [(100, 30)]
theorem cn_40 : cl_40.length = 40 := by decide +kernel
def rl_40 : List (Nat × Nat × Nat) := (29, 17, 39) :: rl_39
def cl_41 : List (Nat × Nat) := cl_40 ++ [(101, 6)]
theorem cn_41 : cl_41.length = 41 := by decide +kernel
def rl_41 : List (Nat × Nat × Nat) := (29, 18, 40) :: rl_40
def cl_42 : List (Nat × Nat) := cl_41 ++ [(101, 384)]
theorem cn_42 : cl_42.length = 42 := by decide +kernel
def rl_42 : List (Nat × Nat × Nat) := (29, 19, 41) :: rl_41
theorem k9_10 {m : Mm} (h_m : Cs (fun _ => False) mE cl_30 2195 wl_4 rl_30 dl_0 m) : ∃ m', F_X7_init 29 m = some ((), m') ∧ Cs (fun _ => False) mE cl_42 2789 wl_4 rl_42 dl_0 m' := by
  unfold F_X7_init
  have n_m : mN m = 30 := cs_N h_m cn_30
  rw [n_m, gdK (show 30 + 1 < K9 by unfold K9; omega), lt9_e]
  have h_u1 : Cs (fun _ => False) mE cl_31 2201 wl_4 rl_30 dl_0 (nw m 100 6) := cs_nw 100 6 h_m (by rw [cn_30]; exact fun _ z => False.elim z)
  generalize nw m 100 6 = u1 at h_u1 ⊢
  rw [cs_O h_u1 (a := 29) (c := 7) (by decide +kernel), gd_t, lt9_e]
  have h_u2 : Cs (fun _ => False) mE cl_31 2201 wl_4 rl_31 dl_0 (wR u1 29 8 (some 30)) := cs_wR 29 8 30 h_u1 (by rw [cn_31]; omega)
  generalize wR u1 29 8 (some 30) = u2 at h_u2 ⊢
  have n_u2 : mN u2 = 31 := cs_N h_u2 cn_31
  rw [n_u2, gdK (show 31 + 1 < K9 by unfold K9; omega), lt9_e]
  have h_u3 : Cs (fun _ => False) mE cl_32 2207 wl_4 rl_31 dl_0 (nw u2 100 6) := cs_nw 100 6 h_u2 (by rw [cn_31]; exact fun _ z => False.elim z)
  generalize nw u2 100 6 = u3 at h_u3 ⊢
  rw [cs_O h_u3 (a := 29) (c := 7) (by decide +kernel), gd_t, lt9_e]
  have h_u4 : Cs (fun _ => False) mE cl_32 2207 wl_4 rl_32 dl_0 (wR u3 29 9 (some 31)) := cs_wR 29 9 31 h_u3 (by rw [cn_32]; omega)
  generalize wR u3 29 9 (some 31) = u4 at h_u4 ⊢
  have n_u4 : mN u4 = 32 := cs_N h_u4 cn_32
  rw [n_u4, gdK (show 32 + 1 < K9 by unfold K9; omega), lt9_e]
  have h_u5 : Cs (fun _ => False) mE cl_33 2213 wl_4 rl_32 dl_0 (nw u4 100 6) := cs_nw 100 6 h_u4 (by rw [cn_32]; exact fun _ z => False.elim z)
  generalize nw u4 100 6 = u5 at h_u5 ⊢
  rw [cs_O h_u5 (a := 29) (c := 7) (by decide +kernel), gd_t, lt9_e]
  have h_u6 : Cs (fun _ => False) mE cl_33 2213 wl_4 rl_33 dl_0 (wR u5 29 10 (some 32)) := cs_wR 29 10 32 h_u5 (by rw [cn_33]; omega)
  generalize wR u5 29 10 (some 32) = u6 at h_u6 ⊢
  have n_u6 : mN u6 = 33 := cs_N h_u6 cn_33
  rw [n_u6, gdK (show 33 + 1 < K9 by unfold K9; omega), lt9_e]
  have h_u7 : Cs (fun _ => False) mE cl_34 2249 wl_4 rl_33 dl_0 (nw u6 100 36) := cs_nw 100 36 h_u6 (by rw [cn_33]; exact fun _ z => False.elim z)
  generalize nw u6 100 36 = u7 at h_u7 ⊢
  rw [cs_O h_u7 (a := 29) (c := 7) (by decide +kernel), gd_t, lt9_e]
  have h_u8 : Cs (fun _ => False) mE cl_34 2249 wl_4 rl_34 dl_0 (wR u7 29 11 (some 33)) := cs_wR 29 11 33 h_u7 (by rw [cn_34]; omega)
  generalize wR u7 29 11 (some 33) = u8 at h_u8 ⊢
  have n_u8 : mN u8 = 34 := cs_N h_u8 cn_34
  rw [n_u8, gdK (show 34 + 1 < K9 by unfold K9; omega), lt9_e]
  have h_u9 : Cs (fun _ => False) mE cl_35 2255 wl_4 rl_34 dl_0 (nw u8 100 6) := cs_nw 100 6 h_u8 (by rw [cn_34]; exact fun _ z => False.elim z)
  generalize nw u8 100 6 = u9 at h_u9 ⊢
  rw [cs_O h_u9 (a := 29) (c := 7) (by decide +kernel), gd_t, lt9_e]
  have h_u10 : Cs (fun _ => False) mE cl_35 2255 wl_4 rl_35 dl_0 (wR u9 29 12 (some 34)) := cs_wR 29 12 34 h_u9 (by rw [cn_35]; omega)
  generalize wR u9 29 12 (some 34) = u10 at h_u10 ⊢
  have n_u10 : mN u10 = 35 := cs_N h_u10 cn_35
  rw [n_u10, gdK (show 35 + 1 < K9 by unfold K9; omega), lt9_e]
  have h_u11 : Cs (fun _ => False) mE cl_36 2303 wl_4 rl_35 dl_0 (nw u10 100 48) := cs_nw 100 48 h_u10 (by rw [cn_35]; exact fun _ z => False.elim z)
  generalize nw u10 100 48 = u11 at h_u11 ⊢
  rw [cs_O h_u11 (a := 29) (c := 7) (by decide +kernel), gd_t, lt9_e]
  have h_u12 : Cs (fun _ => False) mE cl_36 2303 wl_4 rl_36 dl_0 (wR u11 29 13 (some 35)) := cs_wR 29 13 35 h_u11 (by rw [cn_36]; omega)
  generalize wR u11 29 13 (some 35) = u12 at h_u12 ⊢
  have n_u12 : mN u12 = 36 := cs_N h_u12 cn_36
  rw [n_u12, gdK (show 36 + 1 < K9 by unfold K9; omega), lt9_e]
  have h_u13 : Cs (fun _ => False) mE cl_37 2309 wl_4 rl_36 dl_0 (nw u12 100 6) := cs_nw 100 6 h_u12 (by rw [cn_36]; exact fun _ z => False.elim z)
  generalize nw u12 100 6 = u13 at h_u13 ⊢
  rw [cs_O h_u13 (a := 29) (c := 7) (by decide +kernel), gd_t, lt9_e]
  have h_u14 : Cs (fun _ => False) mE cl_37 2309 wl_4 rl_37 dl_0 (wR u13 29 14 (some 36)) := cs_wR 29 14 36 h_u13 (by rw [cn_37]; omega)
  generalize wR u13 29 14 (some 36) = u14 at h_u14 ⊢
  have n_u14 : mN u14 = 37 := cs_N h_u14 cn_37
  rw [n_u14, gdK (show 37 + 1 < K9 by unfold K9; omega), lt9_e]
  have h_u15 : Cs (fun _ => False) mE cl_38 2339 wl_4 rl_37 dl_0 (nw u14 100 30) := cs_nw 100 30 h_u14 (by rw [cn_37]; exact fun _ z => False.elim z)
  generalize nw u14 100 30 = u15 at h_u15 ⊢
  rw [cs_O h_u15 (a := 29) (c := 7) (by decide +kernel), gd_t, lt9_e]
  have h_u16 : Cs (fun _ => False) mE cl_38 2339 wl_4 rl_38 dl_0 (wR u15 29 15 (some 37)) := cs_wR 29 15 37 h_u15 (by rw [cn_38]; omega)
  generalize wR u15 29 15 (some 37) = u16 at h_u16 ⊢
  have n_u16 : mN u16 = 38 := cs_N h_u16 cn_38
  rw [n_u16, gdK (show 38 + 1 < K9 by unfold K9; omega), lt9_e]
  have h_u17 : Cs (fun _ => False) mE cl_39 2369 wl_4 rl_38 dl_0 (nw u16 100 30) := cs_nw 100 30 h_u16 (by rw [cn_38]; exact fun _ z => False.elim z)
  generalize nw u16 100 30 = u17 at h_u17 ⊢
  rw [cs_O h_u17 (a := 29) (c := 7) (by decide +kernel), gd_t, lt9_e]
  have h_u18 : Cs (fun _ => False) mE cl_39 2369 wl_4 rl_39 dl_0 (wR u17 29 16 (some 38)) := cs_wR 29 16 38 h_u17 (by rw [cn_39]; omega)
  generalize wR u17 29 16 (some 38) = u18 at h_u18 ⊢
  have n_u18 : mN u18 = 39 := cs_N h_u18 cn_39
  rw [n_u18, gdK (show 39 + 1 < K9 by unfold K9; omega), lt9_e]
  have h_u19 : Cs (fun _ => False) mE cl_40 2399 wl_4 rl_39 dl_0 (nw u18 100 30) := cs_nw 100 30 h_u18 (by rw [cn_39]; exact fun _ z => False.elim z)
  generalize nw u18 100 30 = u19 at h_u19 ⊢
  rw [cs_O h_u19 (a := 29) (c := 7) (by decide +kernel), gd_t, lt9_e]
  have h_u20 : Cs (fun _ => False) mE cl_40 2399 wl_4 rl_40 dl_0 (wR u19 29 17 (some 39)) := cs_wR 29 17 39 h_u19 (by rw [cn_40]; omega)
  generalize wR u19 29 17 (some 39) = u20 at h_u20 ⊢
  have n_u20 : mN u20 = 40 := cs_N h_u20 cn_40
  rw [n_u20, gdK (show 40 + 1 < K9 by unfold K9; omega), lt9_e]
  have h_u21 : Cs (fun _ => False) mE cl_41 2405 wl_4 rl_40 dl_0 (nw u20 101 6) := cs_nw 101 6 h_u20 (by rw [cn_40]; exact fun _ z => False.elim z)
  generalize nw u20 101 6 = u21 at h_u21 ⊢
  rw [cs_O h_u21 (a := 29) (c := 7) (by decide +kernel), gd_t, lt9_e]
  have h_u22 : Cs (fun _ => False) mE cl_41 2405 wl_4 rl_41 dl_0 (wR u21 29 18 (some 40)) := cs_wR 29 18 40 h_u21 (by rw [cn_41]; omega)
  generalize wR u21 29 18 (some 40) = u22 at h_u22 ⊢
  have n_u22 : mN u22 = 41 := cs_N h_u22 cn_41
  rw [n_u22, gdK (show 41 + 1 < K9 by unfold K9; omega), lt9_e]
  have h_u23 : Cs (fun _ => False) mE cl_42 2789 wl_4 rl_41 dl_0 (nw u22 101 384) := cs_nw 101 384 h_u22 (by rw [cn_41]; exact fun _ z => False.elim z)
  generalize nw u22 101 384 = u23 at h_u23 ⊢
  rw [cs_O h_u23 (a := 29) (c := 7) (by decide +kernel), gd_t, lt9_e]
  have h_u24 : Cs (fun _ => False) mE cl_42 2789 wl_4 rl_42 dl_0 (wR u23 29 19 (some 41)) := cs_wR 29 19 41 h_u23 (by rw [cn_42]; omega)
  generalize wR u23 29 19 (some 41) = u24 at h_u24 ⊢
  exact ⟨u24, rfl, h_u24⟩
def rl_43 : List (Nat × Nat × Nat) := (0, 7, 29) :: rl_42
def cl_43 : List (Nat × Nat) := cl_42 ++ [(5, 2)]
theorem cn_43 : cl_43.length = 43 := by decide +kernel
def cl_44 : List (Nat × Nat) := cl_43 ++ [(104, 16)]
theorem cn_44 : cl_44.length = 44 := by decide +kernel
def rl_44 : List (Nat × Nat × Nat) := (42, 0, 43) :: rl_43
theorem k9_11 {m : Mm} (h_m : Cs (fun _ => False) mE cl_43 2791 wl_4 rl_43 dl_0 m) : ∃ m', F_X5_init 42 m = some ((), m') ∧ Cs (fun _ => False) mE cl_44 2807 wl_4 rl_44 dl_0 m' := by
  unfold F_X5_init
  have n_m : mN m = 43 := cs_N h_m cn_43
  rw [n_m, gdK (show 43 + 1 < K9 by unfold K9; omega), lt9_e]
  have h_u1 : Cs (fun _ => False) mE cl_44 2807 wl_4 rl_43 dl_0 (nw m 104 16) := cs_nw 104 16 h_m (by rw [cn_43]; exact fun _ z => False.elim z)
  generalize nw m 104 16 = u1 at h_u1 ⊢
  rw [cs_O h_u1 (a := 42) (c := 5) (by decide +kernel), gd_t, lt9_e]
  have h_u2 : Cs (fun _ => False) mE cl_44 2807 wl_4 rl_44 dl_0 (wR u1 42 0 (some 43)) := cs_wR 42 0 43 h_u1 (by rw [cn_44]; omega)
  generalize wR u1 42 0 (some 43) = u2 at h_u2 ⊢
  exact ⟨u2, rfl, h_u2⟩
def rl_45 : List (Nat × Nat × Nat) := (0, 8, 42) :: rl_44
def cl_45 : List (Nat × Nat) := cl_44 ++ [(105, 3)]
theorem cn_45 : cl_45.length = 45 := by decide +kernel
def rl_46 : List (Nat × Nat × Nat) := (0, 9, 44) :: rl_45
def cl_46 : List (Nat × Nat) := cl_45 ++ [(4, 2)]
theorem cn_46 : cl_46.length = 46 := by decide +kernel
def cl_47 : List (Nat × Nat) := cl_46 ++ [(103, 64)]
theorem cn_47 : cl_47.length = 47 := by decide +kernel
def rl_47 : List (Nat × Nat × Nat) := (45, 0, 46) :: rl_46
theorem k9_12 {m : Mm} (h_m : Cs (fun _ => False) mE cl_46 2812 wl_4 rl_46 dl_0 m) : ∃ m', F_X4_init 45 m = some ((), m') ∧ Cs (fun _ => False) mE cl_47 2876 wl_4 rl_47 dl_0 m' := by
  unfold F_X4_init
  have n_m : mN m = 46 := cs_N h_m cn_46
  rw [n_m, gdK (show 46 + 1 < K9 by unfold K9; omega), lt9_e]
  have h_u1 : Cs (fun _ => False) mE cl_47 2876 wl_4 rl_46 dl_0 (nw m 103 64) := cs_nw 103 64 h_m (by rw [cn_46]; exact fun _ z => False.elim z)
  generalize nw m 103 64 = u1 at h_u1 ⊢
  rw [cs_O h_u1 (a := 45) (c := 4) (by decide +kernel), gd_t, lt9_e]
  have h_u2 : Cs (fun _ => False) mE cl_47 2876 wl_4 rl_47 dl_0 (wR u1 45 0 (some 46)) := cs_wR 45 0 46 h_u1 (by rw [cn_47]; omega)
  generalize wR u1 45 0 (some 46) = u2 at h_u2 ⊢
  exact ⟨u2, rfl, h_u2⟩
def rl_48 : List (Nat × Nat × Nat) := (0, 10, 45) :: rl_47
def cl_48 : List (Nat × Nat) := cl_47 ++ [(8, 1)]
theorem cn_48 : cl_48.length = 48 := by decide +kernel
theorem k9_13 {m : Mm} (h_m : Cs (fun _ => False) mE cl_48 2877 wl_4 rl_48 dl_0 m) : ∃ m', F_X8_init 47 m = some ((), m') ∧ Cs (fun _ => False) mE cl_48 2877 wl_4 rl_48 dl_0 m' := by
  unfold F_X8_init
  exact ⟨m, rfl, h_m⟩
def rl_49 : List (Nat × Nat × Nat) := (0, 11, 47) :: rl_48
def cl_49 : List (Nat × Nat) := cl_48 ++ [(100, 4)]
theorem cn_49 : cl_49.length = 49 := by decide +kernel
def rl_50 : List (Nat × Nat × Nat) := (0, 12, 48) :: rl_49
theorem k9_class : ∃ m', F_X11_init 0 (nw mE 11 15) = some ((), m') ∧ Cs (reg 16) m' cl_49 2881 wl_4 rl_50 dl_0 m' ∧ ∃ σ, absC m' 16 = beginM σ 0 0 := by
  have h_m : Cs (fun _ => False) mE cl_1 15 wl_0 rl_0 dl_0 (nw mE 11 15) := by
    refine ⟨rfl, rfl, fun b _ => ⟨fun j => ?_, fun j => ?_⟩, fun b z => False.elim z, fun b j => ?_, fun e he => absurd (show e ∈ ([] : List (Nat × Nat × Int32)) from he) List.not_mem_nil, fun e he => absurd (show e ∈ ([] : List (Nat × Nat × Nat)) from he) List.not_mem_nil, fun e he => absurd (show e ∈ ([] : List (Nat × Nat)) from he) List.not_mem_nil⟩
    · show (if b = mN mE then (0 : Int32) else 0) = 0
      split <;> rfl
    · show (if b = mN mE then (0 : Int64) else 0) = 0
      split <;> rfl
    · show (if b = mN mE then none else none) = none
      split <;> rfl
  generalize nw mE 11 15 = m at h_m ⊢
  unfold F_X11_init
  have n_m : mN m = 1 := cs_N h_m cn_1
  rw [n_m, gdK (show 1 + 1 < K9 by unfold K9; omega), lt9_e]
  have h_u1 : Cs (fun _ => False) mE cl_2 23 wl_0 rl_0 dl_0 (nw m 9 8) := cs_nw 9 8 h_m (by rw [cn_1]; exact fun _ z => False.elim z)
  generalize nw m 9 8 = u1 at h_u1 ⊢
  obtain ⟨u2, x_u2, h_u2⟩ := k9_2 h_u1
  rw [bdE x_u2]
  rw [cs_O h_u2 (a := 0) (c := 11) (by decide +kernel), gd_t, lt9_e]
  have h_u3 : Cs (fun _ => False) mE cl_3 623 wl_1 rl_2 dl_0 (wR u2 0 0 (some 1)) := cs_wR 0 0 1 h_u2 (by rw [cn_3]; omega)
  generalize wR u2 0 0 (some 1) = u3 at h_u3 ⊢
  have n_u3 : mN u3 = 3 := cs_N h_u3 cn_3
  rw [n_u3, gdK (show 3 + 1 < K9 by unfold K9; omega), lt9_e]
  have h_u4 : Cs (fun _ => False) mE cl_4 626 wl_1 rl_2 dl_0 (nw u3 1 3) := cs_nw 1 3 h_u3 (by rw [cn_3]; exact fun _ z => False.elim z)
  generalize nw u3 1 3 = u4 at h_u4 ⊢
  obtain ⟨u5, x_u5, h_u5⟩ := k9_3 h_u4
  rw [bdE x_u5]
  rw [cs_O h_u5 (a := 0) (c := 11) (by decide +kernel), gd_t, lt9_e]
  have h_u6 : Cs (fun _ => False) mE cl_4 626 wl_2 rl_3 dl_0 (wR u5 0 1 (some 3)) := cs_wR 0 1 3 h_u5 (by rw [cn_4]; omega)
  generalize wR u5 0 1 (some 3) = u6 at h_u6 ⊢
  have n_u6 : mN u6 = 4 := cs_N h_u6 cn_4
  rw [n_u6, gdK (show 4 + 1 < K9 by unfold K9; omega), lt9_e]
  have h_u7 : Cs (fun _ => False) mE cl_5 631 wl_2 rl_3 dl_0 (nw u6 3 5) := cs_nw 3 5 h_u6 (by rw [cn_4]; exact fun _ z => False.elim z)
  generalize nw u6 3 5 = u7 at h_u7 ⊢
  obtain ⟨u8, x_u8, h_u8⟩ := k9_4 h_u7
  rw [bdE x_u8]
  rw [cs_O h_u8 (a := 0) (c := 11) (by decide +kernel), gd_t, lt9_e]
  have h_u9 : Cs (fun _ => False) mE cl_8 1081 wl_4 rl_7 dl_0 (wR u8 0 2 (some 4)) := cs_wR 0 2 4 h_u8 (by rw [cn_8]; omega)
  generalize wR u8 0 2 (some 4) = u9 at h_u9 ⊢
  have n_u9 : mN u9 = 8 := cs_N h_u9 cn_8
  rw [n_u9, gdK (show 8 + 1 < K9 by unfold K9; omega), lt9_e]
  have h_u10 : Cs (fun _ => False) mE cl_9 1089 wl_4 rl_7 dl_0 (nw u9 10 8) := cs_nw 10 8 h_u9 (by rw [cn_8]; exact fun _ z => False.elim z)
  generalize nw u9 10 8 = u10 at h_u10 ⊢
  obtain ⟨u11, x_u11, h_u11⟩ := k9_6 h_u10
  rw [bdE x_u11]
  rw [cs_O h_u11 (a := 0) (c := 11) (by decide +kernel), gd_t, lt9_e]
  have h_u12 : Cs (fun _ => False) mE cl_12 1539 wl_4 rl_11 dl_0 (wR u11 0 3 (some 8)) := cs_wR 0 3 8 h_u11 (by rw [cn_12]; omega)
  generalize wR u11 0 3 (some 8) = u12 at h_u12 ⊢
  have n_u12 : mN u12 = 12 := cs_N h_u12 cn_12
  rw [n_u12, gdK (show 12 + 1 < K9 by unfold K9; omega), lt9_e]
  have h_u13 : Cs (fun _ => False) mE cl_13 1545 wl_4 rl_11 dl_0 (nw u12 0 6) := cs_nw 0 6 h_u12 (by rw [cn_12]; exact fun _ z => False.elim z)
  generalize nw u12 0 6 = u13 at h_u13 ⊢
  obtain ⟨u14, x_u14, h_u14⟩ := k9_7 h_u13
  rw [bdE x_u14]
  rw [cs_O h_u14 (a := 0) (c := 11) (by decide +kernel), gd_t, lt9_e]
  have h_u15 : Cs (fun _ => False) mE cl_14 1551 wl_4 rl_13 dl_0 (wR u14 0 4 (some 12)) := cs_wR 0 4 12 h_u14 (by rw [cn_14]; omega)
  generalize wR u14 0 4 (some 12) = u15 at h_u15 ⊢
  have n_u15 : mN u15 = 14 := cs_N h_u15 cn_14
  rw [n_u15, gdK (show 14 + 1 < K9 by unfold K9; omega), lt9_e]
  have h_u16 : Cs (fun _ => False) mE cl_15 1555 wl_4 rl_13 dl_0 (nw u15 6 4) := cs_nw 6 4 h_u15 (by rw [cn_14]; exact fun _ z => False.elim z)
  generalize nw u15 6 4 = u16 at h_u16 ⊢
  rw [cs_O h_u16 (a := 0) (c := 11) (by decide +kernel), gd_t, show rR u16 0 1 = some 3 from cs_R h_u16 (by decide +kernel), oc_s]
  rw [gd_t, show rR u16 0 2 = some 4 from cs_R h_u16 (by decide +kernel), oc_s]
  obtain ⟨u17, x_u17, h_u17⟩ := k9_8 h_u16
  rw [bdE x_u17]
  rw [cs_O h_u17 (a := 0) (c := 11) (by decide +kernel), gd_t, lt9_e]
  have h_u18 : Cs (fun _ => False) mE cl_16 1561 wl_4 rl_17 dl_0 (wR u17 0 5 (some 14)) := cs_wR 0 5 14 h_u17 (by rw [cn_16]; omega)
  generalize wR u17 0 5 (some 14) = u18 at h_u18 ⊢
  have n_u18 : mN u18 = 16 := cs_N h_u18 cn_16
  rw [n_u18, gdK (show 16 + 1 < K9 by unfold K9; omega), lt9_e]
  have h_u19 : Cs (fun _ => False) mE cl_17 1581 wl_4 rl_17 dl_0 (nw u18 7 20) := cs_nw 7 20 h_u18 (by rw [cn_16]; exact fun _ z => False.elim z)
  generalize nw u18 7 20 = u19 at h_u19 ⊢
  obtain ⟨u20, x_u20, h_u20⟩ := k9_9 h_u19
  rw [bdE x_u20]
  rw [cs_O h_u20 (a := 0) (c := 11) (by decide +kernel), gd_t, lt9_e]
  have h_u21 : Cs (fun _ => False) mE cl_29 2175 wl_4 rl_30 dl_0 (wR u20 0 6 (some 16)) := cs_wR 0 6 16 h_u20 (by rw [cn_29]; omega)
  generalize wR u20 0 6 (some 16) = u21 at h_u21 ⊢
  have n_u21 : mN u21 = 29 := cs_N h_u21 cn_29
  rw [n_u21, gdK (show 29 + 1 < K9 by unfold K9; omega), lt9_e]
  have h_u22 : Cs (fun _ => False) mE cl_30 2195 wl_4 rl_30 dl_0 (nw u21 7 20) := cs_nw 7 20 h_u21 (by rw [cn_29]; exact fun _ z => False.elim z)
  generalize nw u21 7 20 = u22 at h_u22 ⊢
  obtain ⟨u23, x_u23, h_u23⟩ := k9_10 h_u22
  rw [bdE x_u23]
  rw [cs_O h_u23 (a := 0) (c := 11) (by decide +kernel), gd_t, lt9_e]
  have h_u24 : Cs (fun _ => False) mE cl_42 2789 wl_4 rl_43 dl_0 (wR u23 0 7 (some 29)) := cs_wR 0 7 29 h_u23 (by rw [cn_42]; omega)
  generalize wR u23 0 7 (some 29) = u24 at h_u24 ⊢
  have n_u24 : mN u24 = 42 := cs_N h_u24 cn_42
  rw [n_u24, gdK (show 42 + 1 < K9 by unfold K9; omega), lt9_e]
  have h_u25 : Cs (fun _ => False) mE cl_43 2791 wl_4 rl_43 dl_0 (nw u24 5 2) := cs_nw 5 2 h_u24 (by rw [cn_42]; exact fun _ z => False.elim z)
  generalize nw u24 5 2 = u25 at h_u25 ⊢
  obtain ⟨u26, x_u26, h_u26⟩ := k9_11 h_u25
  rw [bdE x_u26]
  rw [cs_O h_u26 (a := 0) (c := 11) (by decide +kernel), gd_t, lt9_e]
  have h_u27 : Cs (fun _ => False) mE cl_44 2807 wl_4 rl_45 dl_0 (wR u26 0 8 (some 42)) := cs_wR 0 8 42 h_u26 (by rw [cn_44]; omega)
  generalize wR u26 0 8 (some 42) = u27 at h_u27 ⊢
  have n_u27 : mN u27 = 44 := cs_N h_u27 cn_44
  rw [n_u27, gdK (show 44 + 1 < K9 by unfold K9; omega), lt9_e]
  have h_u28 : Cs (fun _ => False) mE cl_45 2810 wl_4 rl_45 dl_0 (nw u27 105 3) := cs_nw 105 3 h_u27 (by rw [cn_44]; exact fun _ z => False.elim z)
  generalize nw u27 105 3 = u28 at h_u28 ⊢
  rw [cs_O h_u28 (a := 0) (c := 11) (by decide +kernel), gd_t, lt9_e]
  have h_u29 : Cs (fun _ => False) mE cl_45 2810 wl_4 rl_46 dl_0 (wR u28 0 9 (some 44)) := cs_wR 0 9 44 h_u28 (by rw [cn_45]; omega)
  generalize wR u28 0 9 (some 44) = u29 at h_u29 ⊢
  have n_u29 : mN u29 = 45 := cs_N h_u29 cn_45
  rw [n_u29, gdK (show 45 + 1 < K9 by unfold K9; omega), lt9_e]
  have h_u30 : Cs (fun _ => False) mE cl_46 2812 wl_4 rl_46 dl_0 (nw u29 4 2) := cs_nw 4 2 h_u29 (by rw [cn_45]; exact fun _ z => False.elim z)
  generalize nw u29 4 2 = u30 at h_u30 ⊢
  obtain ⟨u31, x_u31, h_u31⟩ := k9_12 h_u30
  rw [bdE x_u31]
  rw [cs_O h_u31 (a := 0) (c := 11) (by decide +kernel), gd_t, lt9_e]
  have h_u32 : Cs (fun _ => False) mE cl_47 2876 wl_4 rl_48 dl_0 (wR u31 0 10 (some 45)) := cs_wR 0 10 45 h_u31 (by rw [cn_47]; omega)
  generalize wR u31 0 10 (some 45) = u32 at h_u32 ⊢
  have n_u32 : mN u32 = 47 := cs_N h_u32 cn_47
  rw [n_u32, gdK (show 47 + 1 < K9 by unfold K9; omega), lt9_e]
  have h_u33 : Cs (fun _ => False) mE cl_48 2877 wl_4 rl_48 dl_0 (nw u32 8 1) := cs_nw 8 1 h_u32 (by rw [cn_47]; exact fun _ z => False.elim z)
  generalize nw u32 8 1 = u33 at h_u33 ⊢
  obtain ⟨u34, x_u34, h_u34⟩ := k9_13 h_u33
  rw [bdE x_u34]
  rw [cs_O h_u34 (a := 0) (c := 11) (by decide +kernel), gd_t, lt9_e]
  have h_u35 : Cs (fun _ => False) mE cl_48 2877 wl_4 rl_49 dl_0 (wR u34 0 11 (some 47)) := cs_wR 0 11 47 h_u34 (by rw [cn_48]; omega)
  generalize wR u34 0 11 (some 47) = u35 at h_u35 ⊢
  have n_u35 : mN u35 = 48 := cs_N h_u35 cn_48
  rw [n_u35, gdK (show 48 + 1 < K9 by unfold K9; omega), lt9_e]
  have h_u36 : Cs (fun _ => False) mE cl_49 2881 wl_4 rl_49 dl_0 (nw u35 100 4) := cs_nw 100 4 h_u35 (by rw [cn_48]; exact fun _ z => False.elim z)
  generalize nw u35 100 4 = u36 at h_u36 ⊢
  rw [cs_O h_u36 (a := 0) (c := 11) (by decide +kernel), gd_t, lt9_e]
  have h_u37 : Cs (fun _ => False) mE cl_49 2881 wl_4 rl_50 dl_0 (wR u36 0 12 (some 48)) := cs_wR 0 12 48 h_u36 (by rw [cn_49]; omega)
  generalize wR u36 0 12 (some 48) = u37 at h_u37 ⊢
  rw [cs_O h_u37 (a := 0) (c := 11) (by decide +kernel), gd_t, show rR u37 0 6 = some 16 from cs_R h_u37 (by decide +kernel), oc_s]
  rw [cs_O h_u37 (a := 16) (c := 7) (by decide +kernel), gd_t]
  have c16 : CSh u37 16 := ⟨fun a ha => (by rw [h_u37.1]; revert a; decide +kernel), fun a ha => (by rw [h_u37.2.2.2.2.1]; revert a; decide +kernel)⟩
  obtain ⟨m9, v1, v2, v3⟩ := c_begin (n := 0) (x := 0) c16
  rw [ni_0] at v1
  rw [bdE v1]
  refine ⟨m9, rfl, ⟨by rw [v3.2.2.1]; exact h_u37.1, by rw [v3.2.2.2]; exact h_u37.2.1, fun b hb => ?_, fun b _ => ⟨rfl, rfl⟩, fun b j => by rw [v3.2.1]; exact h_u37.2.2.2.2.1 b j, h_u37.2.2.2.2.2⟩, _, v2⟩
  have z := v3.1 b hb
  rw [z.1, z.2]
  exact h_u37.2.2.1 b id
def cl_50 : List (Nat × Nat) := cl_49 ++ [(12, 37)]
theorem cn_50 : cl_50.length = 50 := by decide +kernel
def wl_5 : List (Nat × Nat × Int32) := (49, 3, -1) :: wl_4
def cl_51 : List (Nat × Nat) := cl_50 ++ [(100, 600)]
theorem cn_51 : cl_51.length = 51 := by decide +kernel
def rl_51 : List (Nat × Nat × Nat) := (49, 9, 50) :: rl_50
def cl_52 : List (Nat × Nat) := cl_51 ++ [(100, 4)]
theorem cn_52 : cl_52.length = 52 := by decide +kernel
def rl_52 : List (Nat × Nat × Nat) := (49, 10, 51) :: rl_51
def cl_53 : List (Nat × Nat) := cl_52 ++ [(100, 3)]
theorem cn_53 : cl_53.length = 53 := by decide +kernel
def rl_53 : List (Nat × Nat × Nat) := (49, 11, 52) :: rl_52
def cl_54 : List (Nat × Nat) := cl_53 ++ [(100, 3)]
theorem cn_54 : cl_54.length = 54 := by decide +kernel
def rl_54 : List (Nat × Nat × Nat) := (49, 12, 53) :: rl_53
def cl_55 : List (Nat × Nat) := cl_54 ++ (106, 160) :: List.replicate 160 (100, 2)
theorem cn_55 : cl_55.length = 215 := by decide +kernel
def dl_1 : List (Nat × Nat) := (54, 160) :: dl_0
def rl_55 : List (Nat × Nat × Nat) := (49, 15, 54) :: rl_54
def cl_56 : List (Nat × Nat) := cl_55 ++ (106, 160) :: List.replicate 160 (100, 2)
theorem cn_56 : cl_56.length = 376 := by decide +kernel
def dl_2 : List (Nat × Nat) := (215, 160) :: dl_1
def rl_56 : List (Nat × Nat × Nat) := (49, 16, 215) :: rl_55
def cl_57 : List (Nat × Nat) := cl_56 ++ (106, 6) :: List.replicate 6 (100, 2)
theorem cn_57 : cl_57.length = 383 := by decide +kernel
def dl_3 : List (Nat × Nat) := (376, 6) :: dl_2
def rl_57 : List (Nat × Nat × Nat) := (49, 17, 376) :: rl_56
def cl_58 : List (Nat × Nat) := cl_57 ++ (106, 6) :: List.replicate 6 (100, 2)
theorem cn_58 : cl_58.length = 390 := by decide +kernel
def dl_4 : List (Nat × Nat) := (383, 6) :: dl_3
def rl_58 : List (Nat × Nat × Nat) := (49, 18, 383) :: rl_57
def cl_59 : List (Nat × Nat) := cl_58 ++ [(100, 160)]
theorem cn_59 : cl_59.length = 391 := by decide +kernel
def rl_59 : List (Nat × Nat × Nat) := (49, 19, 390) :: rl_58
def cl_60 : List (Nat × Nat) := cl_59 ++ [(100, 4)]
theorem cn_60 : cl_60.length = 392 := by decide +kernel
def rl_60 : List (Nat × Nat × Nat) := (49, 20, 391) :: rl_59
def cl_61 : List (Nat × Nat) := cl_60 ++ (106, 80) :: List.replicate 80 (100, 4)
theorem cn_61 : cl_61.length = 473 := by decide +kernel
def dl_5 : List (Nat × Nat) := (392, 80) :: dl_4
def rl_61 : List (Nat × Nat × Nat) := (49, 21, 392) :: rl_60
def cl_62 : List (Nat × Nat) := cl_61 ++ [(100, 968)]
theorem cn_62 : cl_62.length = 474 := by decide +kernel
def rl_62 : List (Nat × Nat × Nat) := (49, 23, 473) :: rl_61
def cl_63 : List (Nat × Nat) := cl_62 ++ [(100, 968)]
theorem cn_63 : cl_63.length = 475 := by decide +kernel
def rl_63 : List (Nat × Nat × Nat) := (49, 24, 474) :: rl_62
def cl_64 : List (Nat × Nat) := cl_63 ++ (106, 16) :: List.replicate 16 (100, 968)
theorem cn_64 : cl_64.length = 492 := by decide +kernel
def dl_6 : List (Nat × Nat) := (475, 16) :: dl_5
def rl_64 : List (Nat × Nat × Nat) := (49, 25, 475) :: rl_63
def cl_65 : List (Nat × Nat) := cl_64 ++ (106, 3) :: List.replicate 3 (100, 16457)
theorem cn_65 : cl_65.length = 496 := by decide +kernel
def dl_7 : List (Nat × Nat) := (492, 3) :: dl_6
def rl_65 : List (Nat × Nat × Nat) := (49, 26, 492) :: rl_64
def cl_66 : List (Nat × Nat) := cl_65 ++ [(100, 60)]
theorem cn_66 : cl_66.length = 497 := by decide +kernel
def rl_66 : List (Nat × Nat × Nat) := (49, 34, 496) :: rl_65
theorem tn_e {m : Mm} (g : GB m) : F_X12_tellsNothing 49 m = some ((), wI (wI (wI m 52 0 0) 52 1 0) 52 2 30) := by
  have q0 : okA m 100 52 0 = true := b52 g (i := 0) (by omega)
  have q1 : okA m 100 52 1 = true := b52 g (i := 1) (by omega)
  have q2 : okA m 100 52 2 = true := b52 g (i := 2) (by omega)
  unfold F_X12_tellsNothing
  simp only [gd_t, bd_s, oc_s, oc_n, lt9_e, jn_e, okOwI, okAwI, okTwI, lnwI, okOwL, okAwL, okTwL, lnwL, rRwI, rRwL, sHwI, sHwL, rIwL, rLwI, b49 g, b11 g, q0, q1, q2, show ix (0 : Int32) = 0 from by decide, show ix (1 : Int32) = 1 from by decide, show ix (2 : Int32) = 2 from by decide]
theorem k9_ref {m mB : Mm} (h_m : Cs (reg 16) mB cl_50 2918 wl_4 rl_50 dl_0 m) : ∃ m5 m', F_X12_init 49 m = some ((), m') ∧ Cs (reg 16) mB cl_66 71962 wl_5 rl_66 dl_7 m5 ∧ Fm (fun b => b = 49 ∨ b = 52 ∨ b = 53 ∨ b = 473) m5 m' ∧ (∀ j, j ≠ 13 → j ≠ 27 → j ≠ 28 → j ≠ 29 → j ≠ 30 → rI m' 49 j = rI m5 49 j) ∧ (∀ j, j = 13 ∨ j = 27 ∨ j = 28 ∨ j = 29 ∨ j = 30 → rI m' 49 j = 0) ∧ rI m' 53 0 = ni 0 ∧ rI m' 53 2 = ni 30 ∧ Bg 0 0 (rI m' 473) := by
  unfold F_X12_init
  rw [cs_O h_m (a := 49) (c := 12) (by decide +kernel), gd_t, lt9_e]
  have h_u1 : Cs (reg 16) mB cl_50 2918 wl_5 rl_50 dl_0 (wI m 49 3 (-1)) := cs_wI 49 3 (-1) h_m (by rw [cn_50]; omega) (by unfold reg; omega)
  generalize wI m 49 3 (-1) = u1 at h_u1 ⊢
  have n_u1 : mN u1 = 50 := cs_N h_u1 cn_50
  rw [n_u1, gdK (show 50 + 1 < K9 by unfold K9; omega), lt9_e]
  have h_u2 : Cs (reg 16) mB cl_51 3518 wl_5 rl_50 dl_0 (nw u1 100 600) := cs_nw 100 600 h_u1 (by rw [cn_50]; exact fun b z => by unfold reg at z; omega)
  generalize nw u1 100 600 = u2 at h_u2 ⊢
  rw [cs_O h_u2 (a := 49) (c := 12) (by decide +kernel), gd_t, lt9_e]
  have h_u3 : Cs (reg 16) mB cl_51 3518 wl_5 rl_51 dl_0 (wR u2 49 9 (some 50)) := cs_wR 49 9 50 h_u2 (by rw [cn_51]; omega)
  generalize wR u2 49 9 (some 50) = u3 at h_u3 ⊢
  have n_u3 : mN u3 = 51 := cs_N h_u3 cn_51
  rw [n_u3, gdK (show 51 + 1 < K9 by unfold K9; omega), lt9_e]
  have h_u4 : Cs (reg 16) mB cl_52 3522 wl_5 rl_51 dl_0 (nw u3 100 4) := cs_nw 100 4 h_u3 (by rw [cn_51]; exact fun b z => by unfold reg at z; omega)
  generalize nw u3 100 4 = u4 at h_u4 ⊢
  rw [cs_O h_u4 (a := 49) (c := 12) (by decide +kernel), gd_t, lt9_e]
  have h_u5 : Cs (reg 16) mB cl_52 3522 wl_5 rl_52 dl_0 (wR u4 49 10 (some 51)) := cs_wR 49 10 51 h_u4 (by rw [cn_52]; omega)
  generalize wR u4 49 10 (some 51) = u5 at h_u5 ⊢
  have n_u5 : mN u5 = 52 := cs_N h_u5 cn_52
  rw [n_u5, gdK (show 52 + 1 < K9 by unfold K9; omega), lt9_e]
  have h_u6 : Cs (reg 16) mB cl_53 3525 wl_5 rl_52 dl_0 (nw u5 100 3) := cs_nw 100 3 h_u5 (by rw [cn_52]; exact fun b z => by unfold reg at z; omega)
  generalize nw u5 100 3 = u6 at h_u6 ⊢
  rw [cs_O h_u6 (a := 49) (c := 12) (by decide +kernel), gd_t, lt9_e]
  have h_u7 : Cs (reg 16) mB cl_53 3525 wl_5 rl_53 dl_0 (wR u6 49 11 (some 52)) := cs_wR 49 11 52 h_u6 (by rw [cn_53]; omega)
  generalize wR u6 49 11 (some 52) = u7 at h_u7 ⊢
  have n_u7 : mN u7 = 53 := cs_N h_u7 cn_53
  rw [n_u7, gdK (show 53 + 1 < K9 by unfold K9; omega), lt9_e]
  have h_u8 : Cs (reg 16) mB cl_54 3528 wl_5 rl_53 dl_0 (nw u7 100 3) := cs_nw 100 3 h_u7 (by rw [cn_53]; exact fun b z => by unfold reg at z; omega)
  generalize nw u7 100 3 = u8 at h_u8 ⊢
  rw [cs_O h_u8 (a := 49) (c := 12) (by decide +kernel), gd_t, lt9_e]
  have h_u9 : Cs (reg 16) mB cl_54 3528 wl_5 rl_54 dl_0 (wR u8 49 12 (some 53)) := cs_wR 49 12 53 h_u8 (by rw [cn_54]; omega)
  generalize wR u8 49 12 (some 53) = u9 at h_u9 ⊢
  have n_u9 : mN u9 = 54 := cs_N h_u9 cn_54
  rw [n_u9, gdK (show 54 + 1 + 160 < K9 by unfold K9; omega), lt9_e]
  have h_u10 : Cs (reg 16) mB cl_55 4008 wl_5 rl_54 dl_1 (nwG u9 160 2) := cs_nwG 160 2 h_u9 (by rw [cn_54]; exact fun b z => by unfold reg at z; omega) cn_54
  generalize nwG u9 160 2 = u10 at h_u10 ⊢
  rw [cs_O h_u10 (a := 49) (c := 12) (by decide +kernel), gd_t, lt9_e]
  have h_u11 : Cs (reg 16) mB cl_55 4008 wl_5 rl_55 dl_1 (wR u10 49 15 (some 54)) := cs_wR 49 15 54 h_u10 (by rw [cn_55]; omega)
  generalize wR u10 49 15 (some 54) = u11 at h_u11 ⊢
  have n_u11 : mN u11 = 215 := cs_N h_u11 cn_55
  rw [n_u11, gdK (show 215 + 1 + 160 < K9 by unfold K9; omega), lt9_e]
  have h_u12 : Cs (reg 16) mB cl_56 4488 wl_5 rl_55 dl_2 (nwG u11 160 2) := cs_nwG 160 2 h_u11 (by rw [cn_55]; exact fun b z => by unfold reg at z; omega) cn_55
  generalize nwG u11 160 2 = u12 at h_u12 ⊢
  rw [cs_O h_u12 (a := 49) (c := 12) (by decide +kernel), gd_t, lt9_e]
  have h_u13 : Cs (reg 16) mB cl_56 4488 wl_5 rl_56 dl_2 (wR u12 49 16 (some 215)) := cs_wR 49 16 215 h_u12 (by rw [cn_56]; omega)
  generalize wR u12 49 16 (some 215) = u13 at h_u13 ⊢
  have n_u13 : mN u13 = 376 := cs_N h_u13 cn_56
  rw [n_u13, gdK (show 376 + 1 + 6 < K9 by unfold K9; omega), lt9_e]
  have h_u14 : Cs (reg 16) mB cl_57 4506 wl_5 rl_56 dl_3 (nwG u13 6 2) := cs_nwG 6 2 h_u13 (by rw [cn_56]; exact fun b z => by unfold reg at z; omega) cn_56
  generalize nwG u13 6 2 = u14 at h_u14 ⊢
  rw [cs_O h_u14 (a := 49) (c := 12) (by decide +kernel), gd_t, lt9_e]
  have h_u15 : Cs (reg 16) mB cl_57 4506 wl_5 rl_57 dl_3 (wR u14 49 17 (some 376)) := cs_wR 49 17 376 h_u14 (by rw [cn_57]; omega)
  generalize wR u14 49 17 (some 376) = u15 at h_u15 ⊢
  have n_u15 : mN u15 = 383 := cs_N h_u15 cn_57
  rw [n_u15, gdK (show 383 + 1 + 6 < K9 by unfold K9; omega), lt9_e]
  have h_u16 : Cs (reg 16) mB cl_58 4524 wl_5 rl_57 dl_4 (nwG u15 6 2) := cs_nwG 6 2 h_u15 (by rw [cn_57]; exact fun b z => by unfold reg at z; omega) cn_57
  generalize nwG u15 6 2 = u16 at h_u16 ⊢
  rw [cs_O h_u16 (a := 49) (c := 12) (by decide +kernel), gd_t, lt9_e]
  have h_u17 : Cs (reg 16) mB cl_58 4524 wl_5 rl_58 dl_4 (wR u16 49 18 (some 383)) := cs_wR 49 18 383 h_u16 (by rw [cn_58]; omega)
  generalize wR u16 49 18 (some 383) = u17 at h_u17 ⊢
  have n_u17 : mN u17 = 390 := cs_N h_u17 cn_58
  rw [n_u17, gdK (show 390 + 1 < K9 by unfold K9; omega), lt9_e]
  have h_u18 : Cs (reg 16) mB cl_59 4684 wl_5 rl_58 dl_4 (nw u17 100 160) := cs_nw 100 160 h_u17 (by rw [cn_58]; exact fun b z => by unfold reg at z; omega)
  generalize nw u17 100 160 = u18 at h_u18 ⊢
  rw [cs_O h_u18 (a := 49) (c := 12) (by decide +kernel), gd_t, lt9_e]
  have h_u19 : Cs (reg 16) mB cl_59 4684 wl_5 rl_59 dl_4 (wR u18 49 19 (some 390)) := cs_wR 49 19 390 h_u18 (by rw [cn_59]; omega)
  generalize wR u18 49 19 (some 390) = u19 at h_u19 ⊢
  have n_u19 : mN u19 = 391 := cs_N h_u19 cn_59
  rw [n_u19, gdK (show 391 + 1 < K9 by unfold K9; omega), lt9_e]
  have h_u20 : Cs (reg 16) mB cl_60 4688 wl_5 rl_59 dl_4 (nw u19 100 4) := cs_nw 100 4 h_u19 (by rw [cn_59]; exact fun b z => by unfold reg at z; omega)
  generalize nw u19 100 4 = u20 at h_u20 ⊢
  rw [cs_O h_u20 (a := 49) (c := 12) (by decide +kernel), gd_t, lt9_e]
  have h_u21 : Cs (reg 16) mB cl_60 4688 wl_5 rl_60 dl_4 (wR u20 49 20 (some 391)) := cs_wR 49 20 391 h_u20 (by rw [cn_60]; omega)
  generalize wR u20 49 20 (some 391) = u21 at h_u21 ⊢
  have n_u21 : mN u21 = 392 := cs_N h_u21 cn_60
  rw [n_u21, gdK (show 392 + 1 + 80 < K9 by unfold K9; omega), lt9_e]
  have h_u22 : Cs (reg 16) mB cl_61 5088 wl_5 rl_60 dl_5 (nwG u21 80 4) := cs_nwG 80 4 h_u21 (by rw [cn_60]; exact fun b z => by unfold reg at z; omega) cn_60
  generalize nwG u21 80 4 = u22 at h_u22 ⊢
  rw [cs_O h_u22 (a := 49) (c := 12) (by decide +kernel), gd_t, lt9_e]
  have h_u23 : Cs (reg 16) mB cl_61 5088 wl_5 rl_61 dl_5 (wR u22 49 21 (some 392)) := cs_wR 49 21 392 h_u22 (by rw [cn_61]; omega)
  generalize wR u22 49 21 (some 392) = u23 at h_u23 ⊢
  have n_u23 : mN u23 = 473 := cs_N h_u23 cn_61
  rw [n_u23, gdK (show 473 + 1 < K9 by unfold K9; omega), lt9_e]
  have h_u24 : Cs (reg 16) mB cl_62 6056 wl_5 rl_61 dl_5 (nw u23 100 968) := cs_nw 100 968 h_u23 (by rw [cn_61]; exact fun b z => by unfold reg at z; omega)
  generalize nw u23 100 968 = u24 at h_u24 ⊢
  rw [cs_O h_u24 (a := 49) (c := 12) (by decide +kernel), gd_t, lt9_e]
  have h_u25 : Cs (reg 16) mB cl_62 6056 wl_5 rl_62 dl_5 (wR u24 49 23 (some 473)) := cs_wR 49 23 473 h_u24 (by rw [cn_62]; omega)
  generalize wR u24 49 23 (some 473) = u25 at h_u25 ⊢
  have n_u25 : mN u25 = 474 := cs_N h_u25 cn_62
  rw [n_u25, gdK (show 474 + 1 < K9 by unfold K9; omega), lt9_e]
  have h_u26 : Cs (reg 16) mB cl_63 7024 wl_5 rl_62 dl_5 (nw u25 100 968) := cs_nw 100 968 h_u25 (by rw [cn_62]; exact fun b z => by unfold reg at z; omega)
  generalize nw u25 100 968 = u26 at h_u26 ⊢
  rw [cs_O h_u26 (a := 49) (c := 12) (by decide +kernel), gd_t, lt9_e]
  have h_u27 : Cs (reg 16) mB cl_63 7024 wl_5 rl_63 dl_5 (wR u26 49 24 (some 474)) := cs_wR 49 24 474 h_u26 (by rw [cn_63]; omega)
  generalize wR u26 49 24 (some 474) = u27 at h_u27 ⊢
  have n_u27 : mN u27 = 475 := cs_N h_u27 cn_63
  rw [n_u27, gdK (show 475 + 1 + 16 < K9 by unfold K9; omega), lt9_e]
  have h_u28 : Cs (reg 16) mB cl_64 22528 wl_5 rl_63 dl_6 (nwG u27 16 968) := cs_nwG 16 968 h_u27 (by rw [cn_63]; exact fun b z => by unfold reg at z; omega) cn_63
  generalize nwG u27 16 968 = u28 at h_u28 ⊢
  rw [cs_O h_u28 (a := 49) (c := 12) (by decide +kernel), gd_t, lt9_e]
  have h_u29 : Cs (reg 16) mB cl_64 22528 wl_5 rl_64 dl_6 (wR u28 49 25 (some 475)) := cs_wR 49 25 475 h_u28 (by rw [cn_64]; omega)
  generalize wR u28 49 25 (some 475) = u29 at h_u29 ⊢
  have n_u29 : mN u29 = 492 := cs_N h_u29 cn_64
  rw [n_u29, gdK (show 492 + 1 + 3 < K9 by unfold K9; omega), lt9_e]
  have h_u30 : Cs (reg 16) mB cl_65 71902 wl_5 rl_64 dl_7 (nwG u29 3 16457) := cs_nwG 3 16457 h_u29 (by rw [cn_64]; exact fun b z => by unfold reg at z; omega) cn_64
  generalize nwG u29 3 16457 = u30 at h_u30 ⊢
  rw [cs_O h_u30 (a := 49) (c := 12) (by decide +kernel), gd_t, lt9_e]
  have h_u31 : Cs (reg 16) mB cl_65 71902 wl_5 rl_65 dl_7 (wR u30 49 26 (some 492)) := cs_wR 49 26 492 h_u30 (by rw [cn_65]; omega)
  generalize wR u30 49 26 (some 492) = u31 at h_u31 ⊢
  have n_u31 : mN u31 = 496 := cs_N h_u31 cn_65
  rw [n_u31, gdK (show 496 + 1 < K9 by unfold K9; omega), lt9_e]
  have h_u32 : Cs (reg 16) mB cl_66 71962 wl_5 rl_65 dl_7 (nw u31 100 60) := cs_nw 100 60 h_u31 (by rw [cn_65]; exact fun b z => by unfold reg at z; omega)
  generalize nw u31 100 60 = u32 at h_u32 ⊢
  rw [cs_O h_u32 (a := 49) (c := 12) (by decide +kernel), gd_t, lt9_e]
  have h_u33 : Cs (reg 16) mB cl_66 71962 wl_5 rl_66 dl_7 (wR u32 49 34 (some 496)) := cs_wR 49 34 496 h_u32 (by rw [cn_66]; omega)
  generalize wR u32 49 34 (some 496) = u33 at h_u33 ⊢
  rw [cs_O h_u33 (a := 49) (c := 12) (by decide +kernel), gd_t]
  have gb : GB u33 := ⟨by rw [h_u33.1]; decide +kernel, by rw [h_u33.1]; decide +kernel, by rw [h_u33.1]; decide +kernel, by rw [h_u33.1]; decide +kernel, cs_R h_u33 (by decide +kernel), cs_R h_u33 (by decide +kernel), cs_R h_u33 (by decide +kernel)⟩
  have gb3 : GB (wI (wI (wI u33 52 0 0) 52 1 0) 52 2 30) := gb
  obtain ⟨m9, u1, u2, u3, u4, u5, u6⟩ := r_begA (n := 0) (x := 0) gb3 (by simp (disch := omega) only [rIw, uf_ap, if_neg, if_pos, if_true]; rfl) (by simp (disch := omega) only [rIw, uf_ap, if_neg, if_pos, if_true])
  refine ⟨u33, m9, ?_, h_u33, Fm_trans (Fm_wI (Fm_wI (Fm_wI (Fm_refl _ _) (by omega)) (by omega)) (by omega)) (Fm_mono (fun b z => by omega) u2), fun j a1 a2 a3 a4 a5 => ?_, u4, ?_, ?_, u6⟩
  · rw [bdE (tn_e gb), b49 gb3, gd_t, bdE u1]
  · rw [u3 j a1 a2 a3 a4 a5]
    simp (disch := omega) only [rIw_ne]
  · rw [u5 0 (by omega)]
    simp (disch := omega) only [rIw, uf_ap, if_neg, if_pos, if_true]
    rfl
  · rw [u5 2 (by omega)]
    simp (disch := omega) only [rIw, uf_ap, if_neg, if_pos, if_true]
    rfl
theorem cl_end : cl_66 ++ [(101, 1)] = shX := by decide +kernel
theorem rl_end1 : ∀ e ∈ rfL, lkR dl_7 rl_66 e.1 e.2.1 = some e.2.2 := by decide +kernel
theorem rl_end2 : ∀ e ∈ rfA, ∀ i, i < e.2 → lkR dl_7 rl_66 e.1 i = some (e.1 + 1 + i) := by decide +kernel
theorem rl_end3 : ∀ a, a < 12 → lkR dl_7 rl_66 16 (8 + a) = some (16 + (1 + a)) := by decide +kernel
theorem rl_end4 : ∀ a, a < 12 → lkR dl_7 rl_66 29 (8 + a) = some (29 + (1 + a)) := by decide +kernel
theorem rl_end5 : ∀ e ∈ rl_66, e.1 ≠ 43 ∧ e.1 ≠ 44 := by decide +kernel
theorem dl_end5 : ∀ e ∈ dl_7, e.1 ≠ 43 ∧ e.1 ≠ 44 := by decide +kernel
theorem rl_ne1 : ∀ e ∈ rfL, e.1 ≠ 497 := by decide +kernel
theorem rl_ne2 : ∀ e ∈ rfA, e.1 ≠ 497 := by decide +kernel
theorem lkA_n {b j : Nat} : ∀ {W : List (Nat × Nat)}, (∀ e ∈ W, e.1 ≠ b) → lkA W b j = none := by
  intro W
  induction W with
  | nil => intro _; rfl
  | cons e W ih =>
    intro h
    have := h e List.mem_cons_self
    rw [lkA, if_neg (by omega)]
    exact ih (fun e' he => h e' (List.mem_cons_of_mem _ he))
theorem lkR_n {D : List (Nat × Nat)} {b j : Nat} (hD : ∀ e ∈ D, e.1 ≠ b) : ∀ {W : List (Nat × Nat × Nat)}, (∀ e ∈ W, e.1 ≠ b) → lkR D W b j = none := by
  intro W
  induction W with
  | nil => intro _; exact lkA_n hD
  | cons e W ih =>
    intro h
    have := h e List.mem_cons_self
    rw [lkR, if_neg (by omega)]
    exact ih (fun e' he => h e' (List.mem_cons_of_mem _ he))
set_option maxRecDepth 20000 in
theorem Inv_0 {m5 m' mB : Mm} {σ : St} (h : Cs (reg 16) mB cl_66 71962 wl_5 rl_66 dl_7 m5) (hB : absC mB 16 = beginM σ 0 0) (f : Fm (fun b => b = 49 ∨ b = 52 ∨ b = 53 ∨ b = 473) m5 m') (j1 : ∀ j, j ≠ 13 → j ≠ 27 → j ≠ 28 → j ≠ 29 → j ≠ 30 → rI m' 49 j = rI m5 49 j) (j2 : ∀ j, j = 13 ∨ j = 27 ∨ j = 28 ∨ j = 29 ∨ j = 30 → rI m' 49 j = 0) (j3 : rI m' 53 0 = ni 0) (j4 : rI m' 53 2 = ni 30) (bg : Bg 0 0 (rI m' 473)) : Inv 0 (nw m' 101 1) ∧ mN m' = 497 := by
  obtain ⟨h1, h2, h3, h4, h5, -, -, -⟩ := h
  have n5 : mN m' = 497 := by
    unfold mN
    rw [f.2.2.1, h1]
    exact cn_66
  have e9 : sH (nw m' 101 1) = shX := by
    rw [sH_nw, f.2.2.1, h1]
    exact cl_end
  have N9 : mN (nw m' 101 1) = 498 := by rw [mN_nw, n5]
  have w : ∀ b, b ≠ 497 → rI (nw m' 101 1) b = rI m' b ∧ rL (nw m' 101 1) b = rL m' b ∧ rR (nw m' 101 1) b = rR m' b := fun b hb => nw_I (by omega)
  have r : ∀ b j, b ≠ 497 → rR (nw m' 101 1) b j = lkR dl_7 rl_66 b j := fun b j hb => by rw [(w b hb).2.2, f.2.1]; exact h5 b j
  have i : ∀ b j, b < 49 → ¬ reg 16 b → rI (nw m' 101 1) b j = lkI wl_5 b j := fun b j hb hr => by
    rw [(w b (by omega)).1, (f.1 b (by omega)).1]
    exact (h3 b hr).1 j
  have g : G (nw m' 101 1) := by
    refine ⟨fun k _ => by rw [e9], fun e he => ?_, fun e he k hk => ?_, fun a ha => ?_, fun a ha => ?_⟩
    · rw [r _ _ (rl_ne1 e he)]
      exact rl_end1 e he
    · rw [r _ _ (rl_ne2 e he)]
      exact rl_end2 e he k hk
    · rw [r _ _ (by omega)]
      exact rl_end3 a ha
    · rw [r _ _ (by omega)]
      exact rl_end4 a ha
  have r43 : ∀ j, rR (nw m' 101 1) 43 j = none := fun j => by
    rw [r 43 j (by omega)]
    exact lkR_n (fun e he => (dl_end5 e he).1) (fun e he => (rl_end5 e he).1)
  have r44 : ∀ j, rR (nw m' 101 1) 44 j = none := fun j => by
    rw [r 44 j (by omega)]
    exact lkR_n (fun e he => (dl_end5 e he).2) (fun e he => (rl_end5 e he).2)
  have ad : ∀ u p, adr (nw m' 101 1) u = some p → (u = 0 ∧ p = 16) ∨ (u = 1 ∧ p = 29) := by
    intro u p hu
    unfold adr at hu
    by_cases z0 : u = 0
    · rw [if_pos z0] at hu
      exact .inl ⟨z0, (Option.some.inj hu).symm⟩
    · rw [if_neg z0] at hu
      by_cases z1 : u = 1
      · rw [if_pos z1] at hu
        exact .inr ⟨z1, (Option.some.inj hu).symm⟩
      · rw [if_neg z1] at hu
        by_cases z2 : u < 18
        · rw [if_pos z2, r43] at hu
          cases hu
        · rw [if_neg z2, r44, oc_n] at hu
          cases hu
  have a16 : absC (nw m' 101 1) 16 = beginM σ 0 0 := by
    rw [← hB]
    unfold absC
    refine Prod.ext (funext fun b => funext fun k => ?_) (funext fun b => funext fun k => ?_)
    · show (if k < lnC b then rI (nw m' 101 1) (16 + b) k else 0) = (if k < lnC b then rI mB (16 + b) k else 0)
      by_cases e : k < lnC b
      · have := lnC_12 e
        rw [if_pos e, if_pos e, (w (16 + b) (by omega)).1, (f.1 (16 + b) (by omega)).1, (h4 (16 + b) ⟨by omega, by omega⟩).1]
      · rw [if_neg e, if_neg e]
    · show (if k < lnD b then rL (nw m' 101 1) (16 + b) k else 0) = (if k < lnD b then rL mB (16 + b) k else 0)
      by_cases e : k < lnD b
      · have := lnD_12 e
        rw [if_pos e, if_pos e, (w (16 + b) (by omega)).2.1, (f.1 (16 + b) (by omega)).2, (h4 (16 + b) ⟨by omega, by omega⟩).2]
      · rw [if_neg e, if_neg e]
  have shp : Shp (nw m' 101 1) := by
    refine ⟨fun u p hu hp => ?_, fun u v p hu hv h1 h2 => ?_, fun j A hj hA => ?_⟩
    · rcases ad u p hp with ⟨rfl, rfl⟩ | ⟨rfl, rfl⟩
      · exact ⟨G_16 g, fun z => by omega⟩
      · exact ⟨G_29 g, fun z => by omega⟩
    · have z1 := ad u p h1
      have z2 := ad v p h2
      omega
    · rw [r44] at hA
      cases hA
  have j49 : ∀ j, j = 1 ∨ j = 3 → rI (nw m' 101 1) 49 j = lkI wl_5 49 j := fun j hj => by
    rw [(w 49 (by omega)).1, j1 j (by omega) (by omega) (by omega) (by omega) (by omega)]
    exact (h3 49 (by unfold reg; omega)).1 j
  have hs : ∀ b : Nat, (sH (nw m' 101 1))[b]? = shX[b]? := fun b => by rw [e9]
  refine ⟨⟨0, 30, 1, one9, [], fun _ => 0, 0, -1, 0, fun _ => 0, 0, 0, fun _ => 0, fun _ => beginM σ 0 0, IC_mk g (by omega) ⟨⟨by rw [i 3 0 (by omega) (by unfold reg; omega)]; decide +kernel, by rw [i 3 2 (by omega) (by unfold reg; omega)]; decide +kernel⟩, ⟨5, 6, .inl ⟨rfl, rfl⟩, by rw [r 4 1 (by omega)]; decide +kernel, ?_⟩, ⟨by rw [i 12 0 (by omega) (by unfold reg; omega)]; decide +kernel, by rw [i 12 1 (by omega) (by unfold reg; omega)]; decide +kernel, by rw [i 12 2 (by omega) (by unfold reg; omega)]; decide +kernel⟩, CTp_0 (by rw [i 1 1 (by omega) (by unfold reg; omega)]; decide +kernel), by rw [i 1 7 (by omega) (by unfold reg; omega)]; decide +kernel, by rw [i 0 14 (by omega) (by unfold reg; omega)]; decide +kernel, fun k hk => ?_⟩ shp ⟨by rw [i 42 1 (by omega) (by unfold reg; omega)]; decide +kernel, by rw [i 0 13 (by omega) (by unfold reg; omega)]; decide +kernel, fun j A hj => by omega, fun u hu => ?_⟩, ?_, ⟨by omega, by omega, WFl_1, BK_nil (by omega), by omega, by omega, fun j hj => by omega, fun u _ => WF_bg σ (by omega) (bel_0 0) (by omega) (by omega)⟩, by omega, ?_⟩, n5⟩
  · refine ⟨by rw [hs]; exact sx4, by rw [r 4 0 (by omega)]; decide +kernel, by rw [r 4 2 (by omega)]; decide +kernel, by rw [hs]; exact sx5, by rw [hs]; exact sx7, by omega, by omega, by rw [i 4 3 (by omega) (by unfold reg; omega)]; decide +kernel, fun k hk => ?_⟩
    have : k = 0 := by omega
    subst this
    rw [i 5 0 (by omega) (by unfold reg; omega)]
    decide +kernel
  · rw [i 48 k (by omega) (by unfold reg; omega)]
    revert k
    decide +kernel
  · have := Val_00 hu
    subst this
    rw [cn_s (adr_0 _), a16]
  · refine ⟨⟨by rw [(w 53 (by omega)).1]; exact j3, by rw [(w 53 (by omega)).1]; exact j4⟩, .inl ⟨by rw [(w 49 (by omega)).1]; exact j2 13 (by omega), rfl, rfl⟩, ⟨fun i hi => by simp at hi, by rw [(w 49 (by omega)).1]; exact j2 27 (by omega)⟩, RTp_0 (by rw [j49 1 (by omega)]; decide +kernel), by rw [j49 3 (by omega)]; decide +kernel, by rw [(w 49 (by omega)).1]; exact j2 29 (by omega), fun k hk => ?_, by rw [(w 49 (by omega)).1]; exact j2 28 (by omega), by rw [(w 49 (by omega)).1]; exact j2 30 (by omega), fun j hj => by omega, fun u hu => ?_⟩
    · rw [(w 51 (by omega)).1, (f.1 51 (by omega)).1, (h3 51 (by unfold reg; omega)).1 k]
      revert k
      decide +kernel
    · have := Val_00 hu
      subst this
      refine RR_cp (RR_bg σ bg) (fun j _ => ?_)
      show rI (nw m' 101 1) 473 (0 + j) = rI m' 473 j
      rw [Nat.zero_add, (w 473 (by omega)).1]
  · show mS m' + 1 ≤ _
    rw [f.2.2.2, h2]
    omega
theorem law_all (L : Nat) (xs : Nat → Int32) (hL : L ≤ 3584) : ∃ μ' : Mm, F_L_law_ L xs mE = some (1, μ') ∧ mN μ' ≤ 603072 ∧ mS μ' ≤ 7219306 := by
  obtain ⟨m3, x1, x2, σ, x3⟩ := k9_class
  have n3 : mN m3 = 49 := cs_N x2 cn_49
  have h4 : Cs (reg 16) m3 cl_50 2918 wl_4 rl_50 dl_0 (nw m3 12 37) := cs_nw 12 37 x2 (by rw [cn_49]; exact fun b z => by unfold reg at z; omega)
  obtain ⟨m5, m6, y1, y2, y3, y4, y5, y6, y7, y8⟩ := k9_ref h4
  obtain ⟨iv, n6⟩ := Inv_0 y2 x3 y3 y4 y5 y6 y7 y8
  obtain ⟨m', k', z1, z2, z3⟩ := lw_go (xs := xs) hL 512 0 NF (nw m6 101 1) (by omega) (by unfold NF; omega) (by omega) iv
  refine ⟨m', ?_, ?_, ?_⟩
  · unfold F_L_law_
    rw [mE_N, gdK (show 0 + 1 < K9 by unfold K9; omega), lt9_e, bdE x1, n3, gdK (show 49 + 1 < K9 by unfold K9; omega), lt9_e, bdE y1, n6, gdK (show 497 + 1 < K9 by unfold K9; omega), lt9_e, lt9_e]
    exact z1
  · obtain ⟨n, l, len, cs, bk, y, t, pl, rf, ru, pk, ik, jk, ct, hC, hR, p, h1, h2⟩ := z2
    omega
  · obtain ⟨n, l, len, cs, bk, y, t, pl, rf, ru, pk, ik, jk, ct, hC, hR, p, h1, h2⟩ := z2
    omega
