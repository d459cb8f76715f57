/-! L2: LAWs: codes (numbers to 999, 1000 to 1003 what is known, 1004 to 1010 signs), done by a stack. -/
def opv (c : Nat) (a b : Int32) : Int32 :=
  if c = 1004 then mnI a b else if c = 1005 then mxI a b else if c = 1006 then a + b else if c = 1007 then a - b else if c = 1008 then a * b else if c = 1009 then (if b = 0 then 0 else a / b) else (if b = 0 then 0 else a - a / b * b)
/-- what is known: member, age, view, size -/
abbrev Kn : Type := Int32 × Int32 × Int32 × Int32
def valv (c : Nat) (e : Kn) : Int32 := if c = 1000 then e.1 else if c = 1001 then e.2.1 else if c = 1002 then e.2.2.1 else if c = 1003 then e.2.2.2 else ni c
def evS (e : Kn) (c : Nat) (q : (Nat → Int32) × Nat) : (Nat → Int32) × Nat :=
  if c < 1004 then (uf q.1 q.2 (valv c e), q.2 + 1) else (uf q.1 (q.2 - 2) (opv c (q.1 (q.2 - 2)) (q.1 (q.2 - 1))), q.2 - 1)
def evI (e : Kn) (cs : Nat → Nat) (d i : Nat) (q : (Nat → Int32) × Nat) : (Nat → Int32) × Nat := itn (fun i q => evS e (cs i) q) d i q
/-- the depth -/
def dpt (cs : Nat → Nat) : Nat → Nat
  | 0 => 0
  | i + 1 => if cs i < 1004 then dpt cs i + 1 else dpt cs i - 1
def WFl (cs : Nat → Nat) (len : Nat) : Prop := (∀ i, i < len → cs i ≤ 1010 ∧ (1004 ≤ cs i → 2 ≤ dpt cs i)) ∧ 1 ≤ dpt cs len ∧ 0 < len ∧ len ≤ 150
def clampI (x : Int32) : Int32 := mxI 0 (mnI 99 x)
def wgt (cs : Nat → Nat) (len : Nat) (e : Kn) : Int32 := clampI ((evI e cs len 0 (fun _ => 0, 0)).1 0)
theorem dpt_le (cs : Nat → Nat) : ∀ i, dpt cs i ≤ i := by
  intro i
  induction i with
  | zero => exact Nat.le_refl _
  | succ i ih =>
    rw [dpt]
    split <;> omega
theorem ev_ag {e : Kn} {cs : Nat → Nat} {len : Nat} (hw : ∀ i, i < len → cs i ≤ 1010 ∧ (1004 ≤ cs i → 2 ≤ dpt cs i)) :
    ∀ (d i : Nat) (f g : Nat → Int32), i + d = len → (∀ j, j < dpt cs i → f j = g j) →
      (evI e cs d i (f, dpt cs i)).2 = dpt cs len ∧ (evI e cs d i (g, dpt cs i)).2 = dpt cs len ∧ ∀ j, j < dpt cs len → (evI e cs d i (f, dpt cs i)).1 j = (evI e cs d i (g, dpt cs i)).1 j := by
  intro d
  induction d with
  | zero =>
    intro i f g hi h
    have : i = len := by omega
    subst this
    exact ⟨rfl, rfl, h⟩
  | succ d ih =>
    intro i f g hi h
    have hs : ∀ f : Nat → Int32, evI e cs (d + 1) i (f, dpt cs i) = evI e cs d (i + 1) (evS e (cs i) (f, dpt cs i)) := fun f => rfl
    rw [hs f, hs g]
    by_cases hc : cs i < 1004
    · have h1 : ∀ f : Nat → Int32, evS e (cs i) (f, dpt cs i) = (uf f (dpt cs i) (valv (cs i) e), dpt cs (i + 1)) := by
        intro f
        rw [evS, dpt, if_pos hc, if_pos hc]
      rw [h1 f, h1 g]
      refine ih (i + 1) _ _ (by omega) (fun j hj => ?_)
      rw [dpt, if_pos hc] at hj
      rw [uf_ap, uf_ap]
      by_cases e1 : j = dpt cs i
      · rw [if_pos e1, if_pos e1]
      · rw [if_neg e1, if_neg e1]
        exact h j (by omega)
    · have h2 := (hw i (by omega)).2 (by omega)
      have h1 : ∀ f : Nat → Int32, evS e (cs i) (f, dpt cs i) = (uf f (dpt cs i - 2) (opv (cs i) (f (dpt cs i - 2)) (f (dpt cs i - 1))), dpt cs (i + 1)) := by
        intro f
        rw [evS, dpt, if_neg hc, if_neg hc]
      rw [h1 f, h1 g]
      refine ih (i + 1) _ _ (by omega) (fun j hj => ?_)
      rw [dpt, if_neg hc] at hj
      rw [uf_ap, uf_ap, h (dpt cs i - 2) (by omega), h (dpt cs i - 1) (by omega)]
      by_cases e1 : j = dpt cs i - 2
      · rw [if_pos e1, if_pos e1]
      · rw [if_neg e1, if_neg e1]
        exact h j (by omega)
theorem ev_0 {e : Kn} {cs : Nat → Nat} {len : Nat} (hw : WFl cs len) (f : Nat → Int32) : clampI ((evI e cs len 0 (f, 0)).1 0) = wgt cs len e := by
  have := (ev_ag (e := e) hw.1 len 0 f (fun _ => 0) (by omega) (fun j hj => absurd hj (by rw [dpt]; omega))).2.2 0 hw.2.1
  rw [dpt] at this
  rw [this]
  rfl
/-! the class's -/
def LC (q qc qs len : Nat) (cs : Nat → Nat) (m : Mm) : Prop :=
  (sH m)[q]? = some (3, 5) ∧ rR m q 0 = some qc ∧ rR m q 2 = some qs ∧ (sH m)[qc]? = some (100, 150) ∧ (sH m)[qs]? = some (100, 150) ∧ qs ≠ qc ∧ qs ≠ q ∧ rI m q 3 = ni len ∧ ∀ i, i < len → rI m qc i = ni (cs i)
theorem LC_fr {q qc qs len : Nat} {cs : Nat → Nat} {m m' : Mm} {A : Nat → Prop} (c : LC q qc qs len cs m) (f : Fm A m m') (h1 : ¬ A q) (h2 : ¬ A qc) : LC q qc qs len cs m' := by
  unfold LC
  rw [f.2.2.1, f.2.1, (f.1 q h1).1, (f.1 qc h2).1]
  exact c
theorem opC {c : Nat} {a b : Int32} {m : Mm} (h1 : 1004 ≤ c) (h2 : c ≤ 1010) : F_X3_reckon (ni c) a b m = some (opv c a b, m) := by
  unfold F_X3_reckon opv
  have hc : c = 1004 ∨ c = 1005 ∨ c = 1006 ∨ c = 1007 ∨ c = 1008 ∨ c = 1009 ∨ c = 1010 := by omega
  rcases hc with rfl | rfl | rfl | rfl | rfl | rfl | rfl
  all_goals simp (disch := first | omega | decide) only [nil_eq, Nat.reduceEqDiff, if_true, if_false]
  · by_cases hb : b = 0
    · simp [hb]
    · simp [hb, gd]
  · by_cases hb : b = 0
    · simp [hb]
    · simp [hb, gd]
