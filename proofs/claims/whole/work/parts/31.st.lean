/-! L2: the class's State. Its cells: 0 the object, 1 age, 2 got, 3 keeps, 4 lorebook, 5 heldCount, 6 held, 7 entries, 8 sender, 9 value, 10 way, 11 sum, 12 entry. -/
abbrev St : Type := (Nat → Nat → Int32) × (Nat → Nat → Int64)
def gI (σ : St) (a j : Nat) : Int32 := σ.1 a j
def gL (σ : St) (a j : Nat) : Int64 := σ.2 a j
def tI (σ : St) (a j : Nat) (v : Int32) : St := (fun b k => if b = a ∧ k = j then v else σ.1 b k, σ.2)
def tL (σ : St) (a j : Nat) (v : Int64) : St := (σ.1, fun b k => if b = a ∧ k = j then v else σ.2 b k)
theorem gI_tI (σ : St) (a j b k : Nat) (v : Int32) : gI (tI σ a j v) b k = if b = a ∧ k = j then v else gI σ b k := rfl
theorem gL_tL (σ : St) (a j b k : Nat) (v : Int64) : gL (tL σ a j v) b k = if b = a ∧ k = j then v else gL σ b k := rfl
theorem gI_tL (σ : St) (a j b k : Nat) (v : Int64) : gI (tL σ a j v) b k = gI σ b k := rfl
theorem gL_tI (σ : St) (a j b k : Nat) (v : Int32) : gL (tI σ a j v) b k = gL σ b k := rfl
def lnC (a : Nat) : Nat := [8, 6, 6, 6, 36, 6, 48, 6, 30, 30, 30, 0, 0].getD a 0
def lnD (a : Nat) : Nat := [0, 0, 0, 0, 0, 0, 0, 0, 0, 0, 0, 6, 384].getD a 0
def absC (m : Mm) (s : Nat) : St := (fun a j => if j < lnC a then rI m (s + a) j else 0, fun a j => if j < lnD a then rL m (s + a) j else 0)
theorem lnC_12 {a j : Nat} (h : j < lnC a) : a ≤ 12 := by
  unfold lnC at h
  rw [List.getD_eq_getElem?_getD] at h
  by_cases e : a ≤ 12
  · exact e
  · rw [List.getElem?_eq_none (by simp; omega)] at h
    simp at h
theorem lnD_12 {a j : Nat} (h : j < lnD a) : a ≤ 12 := by
  unfold lnD at h
  rw [List.getD_eq_getElem?_getD] at h
  by_cases e : a ≤ 12
  · exact e
  · rw [List.getElem?_eq_none (by simp; omega)] at h
    simp at h
theorem rI_of (s : Nat) (m : Mm) {a : Nat} (j : Nat) (h : j < lnC a) : rI m (s + a) j = gI (absC m s) a j := by
  unfold gI absC
  simp [h]
theorem rL_of (s : Nat) (m : Mm) {a : Nat} (j : Nat) (h : j < lnD a) : rL m (s + a) j = gL (absC m s) a j := by
  unfold gL absC
  simp [h]
theorem abs_wI (s : Nat) (m : Mm) {a : Nat} (j : Nat) (v : Int32) (h : j < lnC a) : absC (wI m (s + a) j v) s = tI (absC m s) a j v := by
  unfold absC tI
  refine Prod.ext (funext fun b => funext fun k => ?_) rfl
  show (if k < lnC b then (if s + b = s + a ∧ k = j then v else m.1 (s + b) k) else 0) = (if b = a ∧ k = j then v else (if k < lnC b then m.1 (s + b) k else 0))
  by_cases e : b = a
  · subst e
    by_cases e2 : k = j
    · subst e2
      simp [h]
    · simp [e2]
  · have : ¬ (s + b = s + a) := by omega
    simp [e]
theorem abs_wL (s : Nat) (m : Mm) {a : Nat} (j : Nat) (v : Int64) (h : j < lnD a) : absC (wL m (s + a) j v) s = tL (absC m s) a j v := by
  unfold absC tL
  refine Prod.ext rfl (funext fun b => funext fun k => ?_)
  show (if k < lnD b then (if s + b = s + a ∧ k = j then v else m.2.1 (s + b) k) else 0) = (if b = a ∧ k = j then v else (if k < lnD b then m.2.1 (s + b) k else 0))
  by_cases e : b = a
  · subst e
    by_cases e2 : k = j
    · subst e2
      simp [h]
    · simp [e2]
  · have : ¬ (s + b = s + a) := by omega
    simp [e]
theorem rI_o0 (s : Nat) (m : Mm) {j : Nat} (h : j < 8) : rI m s j = gI (absC m s) 0 j := rI_of s m (a := 0) j h
theorem abs_w0 (s : Nat) (m : Mm) {j : Nat} (v : Int32) (h : j < 8) : absC (wI m s j v) s = tI (absC m s) 0 j v := abs_wI s m (a := 0) j v h
theorem rI_o1 (s : Nat) (m : Mm) {j : Nat} (h : j < 6) : rI m (s + 1) j = gI (absC m s) 1 j := rI_of s m (a := 1) j h
theorem abs_w1 (s : Nat) (m : Mm) {j : Nat} (v : Int32) (h : j < 6) : absC (wI m (s + 1) j v) s = tI (absC m s) 1 j v := abs_wI s m (a := 1) j v h
theorem rI_o2 (s : Nat) (m : Mm) {j : Nat} (h : j < 6) : rI m (s + 2) j = gI (absC m s) 2 j := rI_of s m (a := 2) j h
theorem abs_w2 (s : Nat) (m : Mm) {j : Nat} (v : Int32) (h : j < 6) : absC (wI m (s + 2) j v) s = tI (absC m s) 2 j v := abs_wI s m (a := 2) j v h
theorem rI_o3 (s : Nat) (m : Mm) {j : Nat} (h : j < 6) : rI m (s + 3) j = gI (absC m s) 3 j := rI_of s m (a := 3) j h
theorem abs_w3 (s : Nat) (m : Mm) {j : Nat} (v : Int32) (h : j < 6) : absC (wI m (s + 3) j v) s = tI (absC m s) 3 j v := abs_wI s m (a := 3) j v h
theorem rI_o4 (s : Nat) (m : Mm) {j : Nat} (h : j < 36) : rI m (s + 4) j = gI (absC m s) 4 j := rI_of s m (a := 4) j h
theorem abs_w4 (s : Nat) (m : Mm) {j : Nat} (v : Int32) (h : j < 36) : absC (wI m (s + 4) j v) s = tI (absC m s) 4 j v := abs_wI s m (a := 4) j v h
theorem rI_o5 (s : Nat) (m : Mm) {j : Nat} (h : j < 6) : rI m (s + 5) j = gI (absC m s) 5 j := rI_of s m (a := 5) j h
theorem abs_w5 (s : Nat) (m : Mm) {j : Nat} (v : Int32) (h : j < 6) : absC (wI m (s + 5) j v) s = tI (absC m s) 5 j v := abs_wI s m (a := 5) j v h
theorem rI_o6 (s : Nat) (m : Mm) {j : Nat} (h : j < 48) : rI m (s + 6) j = gI (absC m s) 6 j := rI_of s m (a := 6) j h
theorem abs_w6 (s : Nat) (m : Mm) {j : Nat} (v : Int32) (h : j < 48) : absC (wI m (s + 6) j v) s = tI (absC m s) 6 j v := abs_wI s m (a := 6) j v h
theorem rI_o7 (s : Nat) (m : Mm) {j : Nat} (h : j < 6) : rI m (s + 7) j = gI (absC m s) 7 j := rI_of s m (a := 7) j h
theorem abs_w7 (s : Nat) (m : Mm) {j : Nat} (v : Int32) (h : j < 6) : absC (wI m (s + 7) j v) s = tI (absC m s) 7 j v := abs_wI s m (a := 7) j v h
theorem rI_o8 (s : Nat) (m : Mm) {j : Nat} (h : j < 30) : rI m (s + 8) j = gI (absC m s) 8 j := rI_of s m (a := 8) j h
theorem abs_w8 (s : Nat) (m : Mm) {j : Nat} (v : Int32) (h : j < 30) : absC (wI m (s + 8) j v) s = tI (absC m s) 8 j v := abs_wI s m (a := 8) j v h
theorem rI_o9 (s : Nat) (m : Mm) {j : Nat} (h : j < 30) : rI m (s + 9) j = gI (absC m s) 9 j := rI_of s m (a := 9) j h
theorem abs_w9 (s : Nat) (m : Mm) {j : Nat} (v : Int32) (h : j < 30) : absC (wI m (s + 9) j v) s = tI (absC m s) 9 j v := abs_wI s m (a := 9) j v h
theorem rI_o10 (s : Nat) (m : Mm) {j : Nat} (h : j < 30) : rI m (s + 10) j = gI (absC m s) 10 j := rI_of s m (a := 10) j h
theorem abs_w10 (s : Nat) (m : Mm) {j : Nat} (v : Int32) (h : j < 30) : absC (wI m (s + 10) j v) s = tI (absC m s) 10 j v := abs_wI s m (a := 10) j v h
theorem rI_o11 (s : Nat) (m : Mm) {j : Nat} (h : j < 6) : rL m (s + 11) j = gL (absC m s) 11 j := rL_of s m (a := 11) j h
theorem abs_w11 (s : Nat) (m : Mm) {j : Nat} (v : Int64) (h : j < 6) : absC (wL m (s + 11) j v) s = tL (absC m s) 11 j v := abs_wL s m (a := 11) j v h
theorem rI_o12 (s : Nat) (m : Mm) {j : Nat} (h : j < 384) : rL m (s + 12) j = gL (absC m s) 12 j := rL_of s m (a := 12) j h
theorem abs_w12 (s : Nat) (m : Mm) {j : Nat} (v : Int64) (h : j < 384) : absC (wL m (s + 12) j v) s = tL (absC m s) 12 j v := abs_wL s m (a := 12) j v h
theorem abs_fr {A : Nat → Prop} {m m' : Mm} {s : Nat} (h : Fm A m m') (hd : ∀ b, s ≤ b → b ≤ s + 12 → ¬ A b) : absC m' s = absC m s := by
  unfold absC
  refine Prod.ext (funext fun b => funext fun k => ?_) (funext fun b => funext fun k => ?_)
  · show (if k < lnC b then rI m' (s + b) k else 0) = (if k < lnC b then rI m (s + b) k else 0)
    by_cases e : k < lnC b
    · rw [if_pos e, if_pos e, (h.1 (s + b) (hd _ (by omega) (by have := lnC_12 e; omega))).1]
    · rw [if_neg e, if_neg e]
  · show (if k < lnD b then rL m' (s + b) k else 0) = (if k < lnD b then rL m (s + b) k else 0)
    by_cases e : k < lnD b
    · rw [if_pos e, if_pos e, (h.1 (s + b) (hd _ (by omega) (by have := lnD_12 e; omega))).2]
    · rw [if_neg e, if_neg e]
/-- a State's cells -/
def reg (s : Nat) : Nat → Prop := fun b => s ≤ b ∧ b ≤ s + 12
theorem reg_0 (s : Nat) : reg s s := ⟨by omega, by omega⟩
theorem reg_a {s a : Nat} (h : a ≤ 12) : reg s (s + a) := ⟨by omega, by omega⟩
def shC : List (Nat × Nat) := [(7, 20), (100, 6), (100, 6), (100, 6), (100, 36), (100, 6), (100, 48), (100, 6), (100, 30), (100, 30), (100, 30), (101, 6), (101, 384)]
def CSh (m : Mm) (s : Nat) : Prop := (∀ a, a ≤ 12 → (sH m)[s + a]? = shC[a]?) ∧ (∀ a, a < 12 → rR m s (8 + a) = some (s + (1 + a)))
theorem CSh_fr {A : Nat → Prop} {m m' : Mm} {s : Nat} (h : Fm A m m') (c : CSh m s) : CSh m' s := by
  unfold CSh
  rw [h.2.2.1, h.2.1]
  exact c
theorem CSh_wI {m : Mm} {s a j : Nat} {v : Int32} (c : CSh m s) : CSh (wI m a j v) s := c
theorem CSh_wL {m : Mm} {s a j : Nat} {v : Int64} (c : CSh m s) : CSh (wL m a j v) s := c
theorem CSh_ok {m : Mm} {s : Nat} (c : CSh m s) : okO m s 7 = true := okO_of (c.1 0 (by omega))
theorem CSh_age {m : Mm} {s : Nat} (c : CSh m s) : rR m s 8 = some (s + 1) := c.2 0 (by omega)
theorem CSh_got {m : Mm} {s : Nat} (c : CSh m s) : rR m s 9 = some (s + 2) := c.2 1 (by omega)
theorem CSh_kee {m : Mm} {s : Nat} (c : CSh m s) : rR m s 10 = some (s + 3) := c.2 2 (by omega)
theorem CSh_lor {m : Mm} {s : Nat} (c : CSh m s) : rR m s 11 = some (s + 4) := c.2 3 (by omega)
theorem CSh_hec {m : Mm} {s : Nat} (c : CSh m s) : rR m s 12 = some (s + 5) := c.2 4 (by omega)
theorem CSh_hel {m : Mm} {s : Nat} (c : CSh m s) : rR m s 13 = some (s + 6) := c.2 5 (by omega)
theorem CSh_ent {m : Mm} {s : Nat} (c : CSh m s) : rR m s 14 = some (s + 7) := c.2 6 (by omega)
theorem CSh_sen {m : Mm} {s : Nat} (c : CSh m s) : rR m s 15 = some (s + 8) := c.2 7 (by omega)
theorem CSh_val {m : Mm} {s : Nat} (c : CSh m s) : rR m s 16 = some (s + 9) := c.2 8 (by omega)
theorem CSh_way {m : Mm} {s : Nat} (c : CSh m s) : rR m s 17 = some (s + 10) := c.2 9 (by omega)
theorem CSh_sum {m : Mm} {s : Nat} (c : CSh m s) : rR m s 18 = some (s + 11) := c.2 10 (by omega)
theorem CSh_ery {m : Mm} {s : Nat} (c : CSh m s) : rR m s 19 = some (s + 12) := c.2 11 (by omega)
theorem CSh_n {m : Mm} {s : Nat} (c : CSh m s) {t a n i : Nat} (h : shC[a]? = some (t, n)) (ha : a ≤ 12) (hi : i < n) (hn : n < 2147483648) : okA m t (s + a) (ni i) = true := okA_of ((c.1 a ha).trans h) hi hn
theorem CSh_o1 {m : Mm} {s : Nat} (c : CSh m s) {i : Nat} (h : i < 6) : okA m 100 (s + 1) (ni i) = true := CSh_n c (a := 1) rfl (by omega) h (by omega)
theorem CSh_o2 {m : Mm} {s : Nat} (c : CSh m s) {i : Nat} (h : i < 6) : okA m 100 (s + 2) (ni i) = true := CSh_n c (a := 2) rfl (by omega) h (by omega)
theorem CSh_o3 {m : Mm} {s : Nat} (c : CSh m s) {i : Nat} (h : i < 6) : okA m 100 (s + 3) (ni i) = true := CSh_n c (a := 3) rfl (by omega) h (by omega)
theorem CSh_o4 {m : Mm} {s : Nat} (c : CSh m s) {i : Nat} (h : i < 36) : okA m 100 (s + 4) (ni i) = true := CSh_n c (a := 4) rfl (by omega) h (by omega)
theorem CSh_o5 {m : Mm} {s : Nat} (c : CSh m s) {i : Nat} (h : i < 6) : okA m 100 (s + 5) (ni i) = true := CSh_n c (a := 5) rfl (by omega) h (by omega)
theorem CSh_o6 {m : Mm} {s : Nat} (c : CSh m s) {i : Nat} (h : i < 48) : okA m 100 (s + 6) (ni i) = true := CSh_n c (a := 6) rfl (by omega) h (by omega)
theorem CSh_o7 {m : Mm} {s : Nat} (c : CSh m s) {i : Nat} (h : i < 6) : okA m 100 (s + 7) (ni i) = true := CSh_n c (a := 7) rfl (by omega) h (by omega)
theorem CSh_o8 {m : Mm} {s : Nat} (c : CSh m s) {i : Nat} (h : i < 30) : okA m 100 (s + 8) (ni i) = true := CSh_n c (a := 8) rfl (by omega) h (by omega)
theorem CSh_o9 {m : Mm} {s : Nat} (c : CSh m s) {i : Nat} (h : i < 30) : okA m 100 (s + 9) (ni i) = true := CSh_n c (a := 9) rfl (by omega) h (by omega)
theorem CSh_o10 {m : Mm} {s : Nat} (c : CSh m s) {i : Nat} (h : i < 30) : okA m 100 (s + 10) (ni i) = true := CSh_n c (a := 10) rfl (by omega) h (by omega)
theorem CSh_o11 {m : Mm} {s : Nat} (c : CSh m s) {i : Nat} (h : i < 6) : okA m 101 (s + 11) (ni i) = true := CSh_n c (a := 11) rfl (by omega) h (by omega)
theorem CSh_o12 {m : Mm} {s : Nat} (c : CSh m s) {i : Nat} (h : i < 384) : okA m 101 (s + 12) (ni i) = true := CSh_n c (a := 12) rfl (by omega) h (by omega)
/-- the call does this with the State, and answers so -/
def Up {α : Type} (s : Nat) (m : Mm) (X : Option (α × Mm)) (r : α) (σ : St) : Prop := ∃ m', X = some (r, m') ∧ absC m' s = σ ∧ Fm (reg s) m m'
def has6 (x a : Int32) : Bool := if a < 0 ∨ 6 ≤ a then false else tb x (ix a)
theorem has6_ni {x : Int32} {i : Nat} (h : i < 6) : has6 x (ni i) = tb x i := by
  unfold has6
  rw [if_neg, ix_ni (by omega)]
  simp (disch := first | decide | omega) only [ni_lt0, lni_le, false_or]
  omega
theorem hasC (x a : Int32) (m : Mm) : F_X11_has x a m = some (b2i (has6 x a), m) := by
  unfold F_X11_has has6
  by_cases h1 : a < 0
  · simp [h1, b2i_f]
  · by_cases h2 : (6 : Int32) ≤ a
    · simp [h1, h2, b2i_f]
    · have ha : ∃ i : Nat, i < 6 ∧ a = ni i := by
        have h3 : (0 : Int32) ≤ a := Int32.not_lt.mp h1
        refine ⟨a.toNatClampNeg, ?_, (Int32.ofNat_toNatClampNeg a h3).symm⟩
        have h4 : ¬ (6 : Int32).toInt ≤ a.toInt := fun q => h2 (Int32.le_iff_toInt_le.mpr q)
        have h5 : (6 : Int32).toInt = 6 := by decide
        have h6 : a.toNatClampNeg = a.toInt.toNat := rfl
        omega
      obtain ⟨i, hi, e⟩ := ha
      subst e
      rw [if_neg h1, if_neg h2, tst (by omega), ix_ni (by omega)]
      simp only [h1, h2, or_self, if_false, b2i_0]
      cases tb x i <;> simp [b2i]
theorem hasR {x : Int32} {i : Nat} (h : i < 32) (m : Mm) : F_X12_has x (ni i) m = some (b2i (tb x i), m) := by
  unfold F_X12_has
  rw [tst h]
  cases tb x i <;> simp [b2i]
def bit (k : Nat) : Int32 := (1 : Int32) <<< (ni k &&& 31)
def standing (σ : St) : Int32 := gI σ 0 3 &&& gI σ 0 2
def worth (σ : St) (k : Nat) : Int64 := ((gI σ 9 k).toInt64 + 1) * ((gI σ 8 k).toInt64 + 1)
def deliver (σ : St) (m k : Nat) : St :=
  let σ4 := tL (tI (tI (tI σ 2 m (gI σ 2 m ||| bit k)) 3 m (gI σ 3 m ||| bit k)) 4 (m * 6 + m) (gI σ 4 (m * 6 + m) ||| bit k)) 11 m (gL σ 11 m + worth σ k)
  if gI σ 7 m < 0 then σ4 else if 64 ≤ gI σ 7 m then σ4 else tI (tL σ4 12 (m * 64 + ix (gI σ 7 m)) (gL σ 11 m + worth σ k)) 7 m (gI σ 7 m + 1)
theorem c_standing {m : Mm} {s : Nat} (c : CSh m s) : F_X7_standing s m = some (standing (absC m s), m) := by
  unfold F_X7_standing
  simp (disch := first | omega | ((repeat (first | exact c | apply CSh_wI | apply CSh_wL)); done) | decide) only [gd_t, bd_s, oc_s, oc_n, lt9_e, jn_e, okOwI, okAwI, okTwI, lnwI, okOwL, okAwL, okTwL, lnwL, rRwI, rRwL, sHwI, sHwL, rIwL, rLwI, CSh_ok c, CSh_age c, CSh_got c, CSh_kee c, CSh_lor c, CSh_hec c, CSh_hel c, CSh_ent c, CSh_sen c, CSh_val c, CSh_way c, CSh_sum c, CSh_ery c, CSh_o1 c, CSh_o2 c, CSh_o3 c, CSh_o4 c, CSh_o5 c, CSh_o6 c, CSh_o7 c, CSh_o8 c, CSh_o9 c, CSh_o10 c, CSh_o11 c, CSh_o12 c, rI_o0 s, abs_w0 s, rI_o1 s, abs_w1 s, rI_o2 s, abs_w2 s, rI_o3 s, abs_w3 s, rI_o4 s, abs_w4 s, rI_o5 s, abs_w5 s, rI_o6 s, abs_w6 s, rI_o7 s, abs_w7 s, rI_o8 s, abs_w8 s, rI_o9 s, abs_w9 s, rI_o10 s, abs_w10 s, rI_o11 s, abs_w11 s, rI_o12 s, abs_w12 s, gI_tI, gI_tL, gL_tI, gL_tL]
  rfl
theorem c_worth {m : Mm} {s k : Nat} (c : CSh m s) (hk : k < 30) : F_X7_worthOf s (ni k) m = some (worth (absC m s) k, m) := by
  unfold F_X7_worthOf
  simp (disch := first | omega | ((repeat (first | exact c | apply CSh_wI | apply CSh_wL)); done) | decide) only [gd_t, bd_s, oc_s, oc_n, lt9_e, jn_e, okOwI, okAwI, okTwI, lnwI, okOwL, okAwL, okTwL, lnwL, rRwI, rRwL, sHwI, sHwL, rIwL, rLwI, CSh_ok c, CSh_age c, CSh_got c, CSh_kee c, CSh_lor c, CSh_hec c, CSh_hel c, CSh_ent c, CSh_sen c, CSh_val c, CSh_way c, CSh_sum c, CSh_ery c, CSh_o1 c, CSh_o2 c, CSh_o3 c, CSh_o4 c, CSh_o5 c, CSh_o6 c, CSh_o7 c, CSh_o8 c, CSh_o9 c, CSh_o10 c, CSh_o11 c, CSh_o12 c, rI_o0 s, abs_w0 s, rI_o1 s, abs_w1 s, rI_o2 s, abs_w2 s, rI_o3 s, abs_w3 s, rI_o4 s, abs_w4 s, rI_o5 s, abs_w5 s, rI_o6 s, abs_w6 s, rI_o7 s, abs_w7 s, rI_o8 s, abs_w8 s, rI_o9 s, abs_w9 s, rI_o10 s, abs_w10 s, rI_o11 s, abs_w11 s, rI_o12 s, abs_w12 s, gI_tI, gI_tL, gL_tI, gL_tL, ni_le, ni_lt, ni_eq, ni_add, ni_mul, lni_le, lni_lt, nil_le, nil_lt, lni_eq, nil_eq, lni_add, nil_add, lni_mul, nil_mul, ix_ni, ix_lit, ni_ne1, ni_lt0, ↓reduceIte, Nat.reduceEqDiff, Nat.reduceMul, Nat.reduceAdd, Nat.reduceLeDiff, and_true, true_and, false_and, and_false, if_true, if_false, Nat.not_lt_zero, false_or, or_false, ft9, decide_true, o10, eq_self, b2i_0, b2i_1, b2i_ok, b2i_inj, b2i_t, b2i_f]
  rfl
theorem c_deliver {m : Mm} {s a k : Nat} (c : CSh m s) (ha : a < 6) (hk : k < 30) : Up s m (F_X7_deliver s (ni a) (ni k) m) () (deliver (absC m s) a k) := by
  unfold F_X7_deliver Up
  by_cases h1 : gI (absC m s) 7 a < 0
  · simp (disch := first | omega | ((repeat (first | exact c | apply CSh_wI | apply CSh_wL)); done) | decide) only [gd_t, bd_s, oc_s, oc_n, lt9_e, jn_e, okOwI, okAwI, okTwI, lnwI, okOwL, okAwL, okTwL, lnwL, rRwI, rRwL, sHwI, sHwL, rIwL, rLwI, CSh_ok c, CSh_age c, CSh_got c, CSh_kee c, CSh_lor c, CSh_hec c, CSh_hel c, CSh_ent c, CSh_sen c, CSh_val c, CSh_way c, CSh_sum c, CSh_ery c, CSh_o1 c, CSh_o2 c, CSh_o3 c, CSh_o4 c, CSh_o5 c, CSh_o6 c, CSh_o7 c, CSh_o8 c, CSh_o9 c, CSh_o10 c, CSh_o11 c, CSh_o12 c, rI_o0 s, abs_w0 s, rI_o1 s, abs_w1 s, rI_o2 s, abs_w2 s, rI_o3 s, abs_w3 s, rI_o4 s, abs_w4 s, rI_o5 s, abs_w5 s, rI_o6 s, abs_w6 s, rI_o7 s, abs_w7 s, rI_o8 s, abs_w8 s, rI_o9 s, abs_w9 s, rI_o10 s, abs_w10 s, rI_o11 s, abs_w11 s, rI_o12 s, abs_w12 s, gI_tI, gI_tL, gL_tI, gL_tL, ni_le, ni_lt, ni_eq, ni_add, ni_mul, lni_le, lni_lt, nil_le, nil_lt, lni_eq, nil_eq, lni_add, nil_add, lni_mul, nil_mul, ix_ni, ix_lit, ni_ne1, ni_lt0, ↓reduceIte, Nat.reduceEqDiff, Nat.reduceMul, Nat.reduceAdd, Nat.reduceLeDiff, and_true, true_and, false_and, and_false, if_true, if_false, Nat.not_lt_zero, false_or, or_false, ft9, decide_true, o10, eq_self, b2i_0, b2i_1, b2i_ok, b2i_inj, b2i_t, b2i_f, c_worth, worth, h1]
    refine ⟨_, rfl, ?_, (by repeat' (first | exact Fm_refl _ _ | apply Fm_wI | apply Fm_wL | exact reg_0 _ | exact reg_a (by omega)))⟩
    simp (disch := first | omega | ((repeat (first | exact c | apply CSh_wI | apply CSh_wL)); done) | decide) only [gd_t, bd_s, oc_s, oc_n, lt9_e, jn_e, okOwI, okAwI, okTwI, lnwI, okOwL, okAwL, okTwL, lnwL, rRwI, rRwL, sHwI, sHwL, rIwL, rLwI, CSh_ok c, CSh_age c, CSh_got c, CSh_kee c, CSh_lor c, CSh_hec c, CSh_hel c, CSh_ent c, CSh_sen c, CSh_val c, CSh_way c, CSh_sum c, CSh_ery c, CSh_o1 c, CSh_o2 c, CSh_o3 c, CSh_o4 c, CSh_o5 c, CSh_o6 c, CSh_o7 c, CSh_o8 c, CSh_o9 c, CSh_o10 c, CSh_o11 c, CSh_o12 c, rI_o0 s, abs_w0 s, rI_o1 s, abs_w1 s, rI_o2 s, abs_w2 s, rI_o3 s, abs_w3 s, rI_o4 s, abs_w4 s, rI_o5 s, abs_w5 s, rI_o6 s, abs_w6 s, rI_o7 s, abs_w7 s, rI_o8 s, abs_w8 s, rI_o9 s, abs_w9 s, rI_o10 s, abs_w10 s, rI_o11 s, abs_w11 s, rI_o12 s, abs_w12 s, gI_tI, gI_tL, gL_tI, gL_tL, ni_le, ni_lt, ni_eq, ni_add, ni_mul, lni_le, lni_lt, nil_le, nil_lt, lni_eq, nil_eq, lni_add, nil_add, lni_mul, nil_mul, ix_ni, ix_lit, ni_ne1, ni_lt0, ↓reduceIte, Nat.reduceEqDiff, Nat.reduceMul, Nat.reduceAdd, Nat.reduceLeDiff, and_true, true_and, false_and, and_false, if_true, if_false, Nat.not_lt_zero, false_or, or_false, ft9, decide_true, o10, eq_self, b2i_0, b2i_1, b2i_ok, b2i_inj, b2i_t, b2i_f, deliver, worth, h1, bit]
  · by_cases h2 : (64 : Int32) ≤ gI (absC m s) 7 a
    · simp (disch := first | omega | ((repeat (first | exact c | apply CSh_wI | apply CSh_wL)); done) | decide) only [gd_t, bd_s, oc_s, oc_n, lt9_e, jn_e, okOwI, okAwI, okTwI, lnwI, okOwL, okAwL, okTwL, lnwL, rRwI, rRwL, sHwI, sHwL, rIwL, rLwI, CSh_ok c, CSh_age c, CSh_got c, CSh_kee c, CSh_lor c, CSh_hec c, CSh_hel c, CSh_ent c, CSh_sen c, CSh_val c, CSh_way c, CSh_sum c, CSh_ery c, CSh_o1 c, CSh_o2 c, CSh_o3 c, CSh_o4 c, CSh_o5 c, CSh_o6 c, CSh_o7 c, CSh_o8 c, CSh_o9 c, CSh_o10 c, CSh_o11 c, CSh_o12 c, rI_o0 s, abs_w0 s, rI_o1 s, abs_w1 s, rI_o2 s, abs_w2 s, rI_o3 s, abs_w3 s, rI_o4 s, abs_w4 s, rI_o5 s, abs_w5 s, rI_o6 s, abs_w6 s, rI_o7 s, abs_w7 s, rI_o8 s, abs_w8 s, rI_o9 s, abs_w9 s, rI_o10 s, abs_w10 s, rI_o11 s, abs_w11 s, rI_o12 s, abs_w12 s, gI_tI, gI_tL, gL_tI, gL_tL, ni_le, ni_lt, ni_eq, ni_add, ni_mul, lni_le, lni_lt, nil_le, nil_lt, lni_eq, nil_eq, lni_add, nil_add, lni_mul, nil_mul, ix_ni, ix_lit, ni_ne1, ni_lt0, ↓reduceIte, Nat.reduceEqDiff, Nat.reduceMul, Nat.reduceAdd, Nat.reduceLeDiff, and_true, true_and, false_and, and_false, if_true, if_false, Nat.not_lt_zero, false_or, or_false, ft9, decide_true, o10, eq_self, b2i_0, b2i_1, b2i_ok, b2i_inj, b2i_t, b2i_f, c_worth, worth, h1, h2]
      refine ⟨_, rfl, ?_, (by repeat' (first | exact Fm_refl _ _ | apply Fm_wI | apply Fm_wL | exact reg_0 _ | exact reg_a (by omega)))⟩
      simp (disch := first | omega | ((repeat (first | exact c | apply CSh_wI | apply CSh_wL)); done) | decide) only [gd_t, bd_s, oc_s, oc_n, lt9_e, jn_e, okOwI, okAwI, okTwI, lnwI, okOwL, okAwL, okTwL, lnwL, rRwI, rRwL, sHwI, sHwL, rIwL, rLwI, CSh_ok c, CSh_age c, CSh_got c, CSh_kee c, CSh_lor c, CSh_hec c, CSh_hel c, CSh_ent c, CSh_sen c, CSh_val c, CSh_way c, CSh_sum c, CSh_ery c, CSh_o1 c, CSh_o2 c, CSh_o3 c, CSh_o4 c, CSh_o5 c, CSh_o6 c, CSh_o7 c, CSh_o8 c, CSh_o9 c, CSh_o10 c, CSh_o11 c, CSh_o12 c, rI_o0 s, abs_w0 s, rI_o1 s, abs_w1 s, rI_o2 s, abs_w2 s, rI_o3 s, abs_w3 s, rI_o4 s, abs_w4 s, rI_o5 s, abs_w5 s, rI_o6 s, abs_w6 s, rI_o7 s, abs_w7 s, rI_o8 s, abs_w8 s, rI_o9 s, abs_w9 s, rI_o10 s, abs_w10 s, rI_o11 s, abs_w11 s, rI_o12 s, abs_w12 s, gI_tI, gI_tL, gL_tI, gL_tL, ni_le, ni_lt, ni_eq, ni_add, ni_mul, lni_le, lni_lt, nil_le, nil_lt, lni_eq, nil_eq, lni_add, nil_add, lni_mul, nil_mul, ix_ni, ix_lit, ni_ne1, ni_lt0, ↓reduceIte, Nat.reduceEqDiff, Nat.reduceMul, Nat.reduceAdd, Nat.reduceLeDiff, and_true, true_and, false_and, and_false, if_true, if_false, Nat.not_lt_zero, false_or, or_false, ft9, decide_true, o10, eq_self, b2i_0, b2i_1, b2i_ok, b2i_inj, b2i_t, b2i_f, deliver, worth, h1, h2, bit]
    · obtain ⟨e, he, hx⟩ := ni_of h1 (n := 64) (by omega) h2
      simp (disch := first | omega | ((repeat (first | exact c | apply CSh_wI | apply CSh_wL)); done) | decide) only [gd_t, bd_s, oc_s, oc_n, lt9_e, jn_e, okOwI, okAwI, okTwI, lnwI, okOwL, okAwL, okTwL, lnwL, rRwI, rRwL, sHwI, sHwL, rIwL, rLwI, CSh_ok c, CSh_age c, CSh_got c, CSh_kee c, CSh_lor c, CSh_hec c, CSh_hel c, CSh_ent c, CSh_sen c, CSh_val c, CSh_way c, CSh_sum c, CSh_ery c, CSh_o1 c, CSh_o2 c, CSh_o3 c, CSh_o4 c, CSh_o5 c, CSh_o6 c, CSh_o7 c, CSh_o8 c, CSh_o9 c, CSh_o10 c, CSh_o11 c, CSh_o12 c, rI_o0 s, abs_w0 s, rI_o1 s, abs_w1 s, rI_o2 s, abs_w2 s, rI_o3 s, abs_w3 s, rI_o4 s, abs_w4 s, rI_o5 s, abs_w5 s, rI_o6 s, abs_w6 s, rI_o7 s, abs_w7 s, rI_o8 s, abs_w8 s, rI_o9 s, abs_w9 s, rI_o10 s, abs_w10 s, rI_o11 s, abs_w11 s, rI_o12 s, abs_w12 s, gI_tI, gI_tL, gL_tI, gL_tL, ni_le, ni_lt, ni_eq, ni_add, ni_mul, lni_le, lni_lt, nil_le, nil_lt, lni_eq, nil_eq, lni_add, nil_add, lni_mul, nil_mul, ix_ni, ix_lit, ni_ne1, ni_lt0, ↓reduceIte, Nat.reduceEqDiff, Nat.reduceMul, Nat.reduceAdd, Nat.reduceLeDiff, and_true, true_and, false_and, and_false, if_true, if_false, Nat.not_lt_zero, false_or, or_false, ft9, decide_true, o10, eq_self, b2i_0, b2i_1, b2i_ok, b2i_inj, b2i_t, b2i_f, c_worth, worth, hx, ↓if_pos, ↓if_neg]
      refine ⟨_, rfl, ?_, (by repeat' (first | exact Fm_refl _ _ | apply Fm_wI | apply Fm_wL | exact reg_0 _ | exact reg_a (by omega)))⟩
      simp (disch := first | omega | ((repeat (first | exact c | apply CSh_wI | apply CSh_wL)); done) | decide) only [gd_t, bd_s, oc_s, oc_n, lt9_e, jn_e, okOwI, okAwI, okTwI, lnwI, okOwL, okAwL, okTwL, lnwL, rRwI, rRwL, sHwI, sHwL, rIwL, rLwI, CSh_ok c, CSh_age c, CSh_got c, CSh_kee c, CSh_lor c, CSh_hec c, CSh_hel c, CSh_ent c, CSh_sen c, CSh_val c, CSh_way c, CSh_sum c, CSh_ery c, CSh_o1 c, CSh_o2 c, CSh_o3 c, CSh_o4 c, CSh_o5 c, CSh_o6 c, CSh_o7 c, CSh_o8 c, CSh_o9 c, CSh_o10 c, CSh_o11 c, CSh_o12 c, rI_o0 s, abs_w0 s, rI_o1 s, abs_w1 s, rI_o2 s, abs_w2 s, rI_o3 s, abs_w3 s, rI_o4 s, abs_w4 s, rI_o5 s, abs_w5 s, rI_o6 s, abs_w6 s, rI_o7 s, abs_w7 s, rI_o8 s, abs_w8 s, rI_o9 s, abs_w9 s, rI_o10 s, abs_w10 s, rI_o11 s, abs_w11 s, rI_o12 s, abs_w12 s, gI_tI, gI_tL, gL_tI, gL_tL, ni_le, ni_lt, ni_eq, ni_add, ni_mul, lni_le, lni_lt, nil_le, nil_lt, lni_eq, nil_eq, lni_add, nil_add, lni_mul, nil_mul, ix_ni, ix_lit, ni_ne1, ni_lt0, ↓reduceIte, Nat.reduceEqDiff, Nat.reduceMul, Nat.reduceAdd, Nat.reduceLeDiff, and_true, true_and, false_and, and_false, if_true, if_false, Nat.not_lt_zero, false_or, or_false, ft9, decide_true, o10, eq_self, b2i_0, b2i_1, b2i_ok, b2i_inj, b2i_t, b2i_f, deliver, worth, bit, hx, ↓if_pos, ↓if_neg]
/-! its methods that change nothing -/
def stands (σ : St) (i : Nat) : Bool := tb (standing σ) i
def reach (σ : St) (a b : Nat) : Bool := has6 (gI σ 0 6) (ni a) == has6 (gI σ 0 6) (ni b)
theorem c_stands {m : Mm} {s i : Nat} (c : CSh m s) (hi : i < 6) : F_X7_stands s (ni i) m = some (b2i (stands (absC m s) i), m) := by
  unfold F_X7_stands
  simp (disch := first | omega | ((repeat (first | exact c | apply CSh_wI | apply CSh_wL)); done) | decide) only [gd_t, bd_s, oc_s, oc_n, lt9_e, jn_e, okOwI, okAwI, okTwI, lnwI, okOwL, okAwL, okTwL, lnwL, rRwI, rRwL, sHwI, sHwL, rIwL, rLwI, CSh_ok c, CSh_age c, CSh_got c, CSh_kee c, CSh_lor c, CSh_hec c, CSh_hel c, CSh_ent c, CSh_sen c, CSh_val c, CSh_way c, CSh_sum c, CSh_ery c, CSh_o1 c, CSh_o2 c, CSh_o3 c, CSh_o4 c, CSh_o5 c, CSh_o6 c, CSh_o7 c, CSh_o8 c, CSh_o9 c, CSh_o10 c, CSh_o11 c, CSh_o12 c, rI_o0 s, abs_w0 s, rI_o1 s, abs_w1 s, rI_o2 s, abs_w2 s, rI_o3 s, abs_w3 s, rI_o4 s, abs_w4 s, rI_o5 s, abs_w5 s, rI_o6 s, abs_w6 s, rI_o7 s, abs_w7 s, rI_o8 s, abs_w8 s, rI_o9 s, abs_w9 s, rI_o10 s, abs_w10 s, rI_o11 s, abs_w11 s, rI_o12 s, abs_w12 s, gI_tI, gI_tL, gL_tI, gL_tL, ni_le, ni_lt, ni_eq, ni_add, ni_mul, lni_le, lni_lt, nil_le, nil_lt, lni_eq, nil_eq, lni_add, nil_add, lni_mul, nil_mul, ix_ni, ix_lit, ni_ne1, ni_lt0, ↓reduceIte, Nat.reduceEqDiff, Nat.reduceMul, Nat.reduceAdd, Nat.reduceLeDiff, and_true, true_and, false_and, and_false, if_true, if_false, Nat.not_lt_zero, false_or, or_false, ft9, decide_true, o10, eq_self, b2i_0, b2i_1, b2i_ok, b2i_inj, b2i_t, b2i_f, c_standing c, hasC, has6_ni, stands]
def keptF (σ : St) (x : Int32) (i : Nat) (a : Int32) : Int32 := a ||| (if tb x i then gI σ 3 i else 0)
def keptBy (σ : St) (x : Int32) : Int32 := itn (keptF σ x) 6 0 0
theorem c_keptBy {m : Mm} {s : Nat} {x : Int32} (c : CSh m s) : F_X7_keptBy s x m = some (keptBy (absC m s) x, m) := by
  unfold F_X7_keptBy
  refine lp_eq (L := fun n i a => L_X7_keptBy_4 n s x a i m) (f := keptF (absC m s) x) (N := 6) (fin := fun a => some (a, m)) ?_ ?_ 6 0 NF 0 (by omega) (by decide)
  · intro n i a hi
    show L_X7_keptBy_4 (n + 1) s x a (ni i) m = _
    rw [L_X7_keptBy_4]
    cases e : tb x i <;> simp (disch := first | omega | ((repeat (first | exact c | apply CSh_wI | apply CSh_wL)); done) | decide) only [gd_t, bd_s, oc_s, oc_n, lt9_e, jn_e, okOwI, okAwI, okTwI, lnwI, okOwL, okAwL, okTwL, lnwL, rRwI, rRwL, sHwI, sHwL, rIwL, rLwI, CSh_ok c, CSh_age c, CSh_got c, CSh_kee c, CSh_lor c, CSh_hec c, CSh_hel c, CSh_ent c, CSh_sen c, CSh_val c, CSh_way c, CSh_sum c, CSh_ery c, CSh_o1 c, CSh_o2 c, CSh_o3 c, CSh_o4 c, CSh_o5 c, CSh_o6 c, CSh_o7 c, CSh_o8 c, CSh_o9 c, CSh_o10 c, CSh_o11 c, CSh_o12 c, rI_o0 s, abs_w0 s, rI_o1 s, abs_w1 s, rI_o2 s, abs_w2 s, rI_o3 s, abs_w3 s, rI_o4 s, abs_w4 s, rI_o5 s, abs_w5 s, rI_o6 s, abs_w6 s, rI_o7 s, abs_w7 s, rI_o8 s, abs_w8 s, rI_o9 s, abs_w9 s, rI_o10 s, abs_w10 s, rI_o11 s, abs_w11 s, rI_o12 s, abs_w12 s, gI_tI, gI_tL, gL_tI, gL_tL, ni_le, ni_lt, ni_eq, ni_add, ni_mul, lni_le, lni_lt, nil_le, nil_lt, lni_eq, nil_eq, lni_add, nil_add, lni_mul, nil_mul, ix_ni, ix_lit, ni_ne1, ni_lt0, ↓reduceIte, Nat.reduceEqDiff, Nat.reduceMul, Nat.reduceAdd, Nat.reduceLeDiff, and_true, true_and, false_and, and_false, if_true, if_false, Nat.not_lt_zero, false_or, or_false, ft9, decide_true, o10, eq_self, b2i_0, b2i_1, b2i_ok, b2i_inj, b2i_t, b2i_f, hasC, has6_ni, e, keptF, ↓if_pos, ↓if_neg]
  · intro n a
    show L_X7_keptBy_4 (n + 1) s x a (ni 6) m = _
    rw [L_X7_keptBy_4]
    simp (disch := first | omega | ((repeat (first | exact c | apply CSh_wI | apply CSh_wL)); done) | decide) only [gd_t, bd_s, oc_s, oc_n, lt9_e, jn_e, okOwI, okAwI, okTwI, lnwI, okOwL, okAwL, okTwL, lnwL, rRwI, rRwL, sHwI, sHwL, rIwL, rLwI, CSh_ok c, CSh_age c, CSh_got c, CSh_kee c, CSh_lor c, CSh_hec c, CSh_hel c, CSh_ent c, CSh_sen c, CSh_val c, CSh_way c, CSh_sum c, CSh_ery c, CSh_o1 c, CSh_o2 c, CSh_o3 c, CSh_o4 c, CSh_o5 c, CSh_o6 c, CSh_o7 c, CSh_o8 c, CSh_o9 c, CSh_o10 c, CSh_o11 c, CSh_o12 c, rI_o0 s, abs_w0 s, rI_o1 s, abs_w1 s, rI_o2 s, abs_w2 s, rI_o3 s, abs_w3 s, rI_o4 s, abs_w4 s, rI_o5 s, abs_w5 s, rI_o6 s, abs_w6 s, rI_o7 s, abs_w7 s, rI_o8 s, abs_w8 s, rI_o9 s, abs_w9 s, rI_o10 s, abs_w10 s, rI_o11 s, abs_w11 s, rI_o12 s, abs_w12 s, gI_tI, gI_tL, gL_tI, gL_tL, ni_le, ni_lt, ni_eq, ni_add, ni_mul, lni_le, lni_lt, nil_le, nil_lt, lni_eq, nil_eq, lni_add, nil_add, lni_mul, nil_mul, ix_ni, ix_lit, ni_ne1, ni_lt0, ↓reduceIte, Nat.reduceEqDiff, Nat.reduceMul, Nat.reduceAdd, Nat.reduceLeDiff, and_true, true_and, false_and, and_false, if_true, if_false, Nat.not_lt_zero, false_or, or_false, ft9, decide_true, o10, eq_self, b2i_0, b2i_1, b2i_ok, b2i_inj, b2i_t, b2i_f, ↓if_pos, ↓if_neg]
