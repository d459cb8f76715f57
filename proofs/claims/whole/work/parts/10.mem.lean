/-! L1: memory, its realisation in the heap, the judgement GG. -/
/-- ints, longs, references by cell and place; kind and length of each cell; slots used -/
abbrev Mm : Type := (Nat → Nat → Int32) × (Nat → Nat → Int64) × (Nat → Nat → Option Nat) × List (Nat × Nat) × Nat
def rI (μ : Mm) (a j : Nat) : Int32 := μ.1 a j
def rL (μ : Mm) (a j : Nat) : Int64 := μ.2.1 a j
def rR (μ : Mm) (a j : Nat) : Option Nat := μ.2.2.1 a j
def sH (μ : Mm) : List (Nat × Nat) := μ.2.2.2.1
def mS (μ : Mm) : Nat := μ.2.2.2.2
def mN (μ : Mm) : Nat := (sH μ).length
def wI (μ : Mm) (a j : Nat) (v : Int32) : Mm := (fun b k => if b = a ∧ k = j then v else μ.1 b k, μ.2)
def wL (μ : Mm) (a j : Nat) (v : Int64) : Mm := (μ.1, fun b k => if b = a ∧ k = j then v else μ.2.1 b k, μ.2.2)
def wR (μ : Mm) (a j : Nat) (v : Option Nat) : Mm := (μ.1, μ.2.1, fun b k => if b = a ∧ k = j then v else μ.2.2.1 b k, μ.2.2.2)
def nw (μ : Mm) (k n : Nat) : Mm := (fun b i => if b = mN μ then 0 else μ.1 b i, fun b i => if b = mN μ then 0 else μ.2.1 b i, fun b i => if b = mN μ then none else μ.2.2.1 b i, sH μ ++ [(k, n)], mS μ + n)
def cpI (μ : Mm) (src sp dst dp n : Nat) : Mm := (fun b k => if b = dst ∧ dp ≤ k ∧ k < dp + n then μ.1 src (sp + (k - dp)) else μ.1 b k, μ.2)
def cpL (μ : Mm) (src sp dst dp n : Nat) : Mm := (μ.1, fun b k => if b = dst ∧ dp ≤ k ∧ k < dp + n then μ.2.1 src (sp + (k - dp)) else μ.2.1 b k, μ.2.2)
/-- classes' ids, slots of their fields, array classes' ids, the first own address, the addresses of String constants and of their bytes -/
abbrev Th : Type := (Nat → ClassId) × (Nat → Nat → Nat) × (Nat → ClassId) × Nat × (Nat → Nat) × (Nat → Nat)
def tB (θ : Th) : Nat := θ.2.2.2.1
def tA (θ : Th) : Nat → Prop := fun q => tB θ ≤ q
def K9 : Nat := 1000000000
def ad (θ : Th) (i : Nat) : Nat := if i < K9 then tB θ + i else if i < K9 + 1000 then θ.2.2.2.2.1 (i - K9) else θ.2.2.2.2.2 (i - (K9 + 1000))
def re (θ : Th) (v : Value) : Value := match v with
  | .ref i => .ref (ad θ i)
  | w => w
abbrev cl9 : List vw_C := [(RX0, TX0, 6), (RX1, TX1, 3), (RX2, TX2, 2), (RX3, TX3, 5), (RX4, TX4, 2), (RX5, TX5, 2), (RX6, TX6, 4), (RX7, TX7, 20), (RX8, TX8, 1), (RX9, TX9, 8), (RX10, TX10, 8), (RX11, TX11, 15), (RX12, TX12, 37)]
def fty (c : Nat) : Nat → FieldType := match c with
  | 0 => tyX0 | 1 => tyX1 | 2 => tyX2 | 3 => tyX3 | 4 => tyX4 | 5 => tyX5 | 6 => tyX6 | 7 => tyX7 | 8 => tyX8 | 9 => tyX9 | 10 => tyX10 | 11 => tyX11 | _ => tyX12
def fN (c : Nat) : Nat := [6, 3, 2, 5, 2, 2, 4, 20, 1, 8, 8, 15, 37].getD c 0
def fR (c k : Nat) : Bool := match fty c k with
  | .int => false
  | _ => true
def fv (θ : Th) (μ : Mm) (i c k : Nat) : Value := if fR c k = true then va_rf ((rR μ i k).map (ad θ)) else .int (rI μ i k)
/-- kinds of arrays: 100 int, 101 long, 102 byte, 103 char, 104 State[], 105 Image[], 106 int[][] -/
def ct (θ : Th) (μ : Mm) (i k : Nat) : (Nat → Int32) ⊕ (Nat → Int64) ⊕ (Nat → UInt32) ⊕ (Nat → UInt64) ⊕ (Nat → Option Nat) :=
  if k = 101 then .inr (.inl (rL μ i)) else if k < 104 then .inl (rI μ i) else .inr (.inr (.inr (.inr (fun j => (rR μ i j).map (ad θ)))))
def el (θ : Th) (μ : Mm) (i : Nat) (q : Nat × Nat) : va_E :=
  if q.1 < 50 then .inr (q.1, (List.range q.2).map (fv θ μ i q.1)) else .inl (θ.2.2.1 (q.1 - 100), q.2, ct θ μ i q.1)
abbrev tD (θ : Th) : va_G := (θ.1, θ.2.1)
def tys9 (θ : Th) : List (ClassId × FieldType) := [(θ.2.2.1 0, .int), (θ.2.2.1 1, .long), (θ.2.2.1 2, .byte), (θ.2.2.1 3, .char), (θ.2.2.1 4, .object "FlushViews$State"), (θ.2.2.1 5, .object "FlushViews$Image"), (θ.2.2.1 6, .array .int)]
def Rl (θ : Th) (μ : Mm) (H : Heap) : Prop := H.size = tB θ + mN μ ∧ (∀ (i : Nat) (q : Nat × Nat), (sH μ)[i]? = some q → q.1 ≠ 50 → va_at (tD θ) cl9 (tB θ + i, el θ μ i q) H) ∧ mN μ < K9
/-- the locals -/
def lvh (θ : Th) (ls : Array Slot) (nL : Nat) (lv : List (Option Value)) : Prop := ls.size = nL ∧ lv_wf ls ∧ ∀ (i : Nat) (v : Value), lv[i]? = some (some v) → ls[i]? = some (.val (re θ v))
def kl (lv : List (Option Value)) (i : Nat) : List (Option Value) := match i with
  | 0 => lv
  | j + 1 => match lv[j]? with
    | some (some v) => if v.category = 2 then lv.set j none else lv
    | _ => lv
def st1 (lv : List (Option Value)) (i : Nat) (v : Value) : List (Option Value) := (kl lv i).set i (some v)
def st2 (lv : List (Option Value)) (i : Nat) (v : Value) : List (Option Value) := ((kl lv i).set (i + 1) none).set i (some v)
def msk (bs : List Bool) (lv : List (Option Value)) : List (Option Value) := List.zipWith (fun (b : Bool) (o : Option Value) => if b then o else none) bs lv
def al (θ : Th) (lv : List (Option Value)) : List (Nat × Value) := (List.range lv.length).filterMap (fun i => match lv[i]? with
  | some (some v) => some (i, re θ v)
  | _ => none)
theorem al_mem {θ : Th} {lv : List (Option Value)} {i : Nat} {v : Value} (h : lv[i]? = some (some v)) : (i, re θ v) ∈ al θ lv := by
  unfold al
  refine List.mem_filterMap.mpr ⟨i, List.mem_range.mpr (List.getElem?_eq_some_iff.mp h).1, ?_⟩
  rw [h]
theorem al_inv {θ : Th} {lv : List (Option Value)} {q : Nat × Value} (h : q ∈ al θ lv) : ∃ v, lv[q.1]? = some (some v) ∧ q.2 = re θ v := by
  obtain ⟨i, -, hi⟩ := List.mem_filterMap.mp h
  split at hi
  · next v hv =>
    cases hi
    exact ⟨v, hv, rfl⟩
  · cases hi
theorem lvh_al {θ : Th} {ls : Array Slot} {nL : Nat} {lv : List (Option Value)} (h : lvh θ ls nL lv) : lv_has ls nL (al θ lv) := by
  refine ⟨h.1, h.2.1, fun q hq => ?_⟩
  obtain ⟨v, h1, h2⟩ := al_inv hq
  rw [h2]
  exact h.2.2 _ _ h1
theorem re_cat (θ : Th) (v : Value) : (re θ v).category = v.category := by cases v <;> rfl
theorem kl_get {lv : List (Option Value)} {i j : Nat} {w : Value} (h : (kl lv i)[j]? = some (some w)) : lv[j]? = some (some w) ∧ ¬ (j + 1 = i ∧ w.category = 2) := by
  cases i with
  | zero => exact ⟨h, fun q => by omega⟩
  | succ k =>
    unfold kl at h
    dsimp only at h
    split at h
    · next v hv =>
      by_cases hc : v.category = 2
      · rw [if_pos hc, List.getElem?_set] at h
        by_cases e : k = j
        · subst e
          rw [if_pos rfl] at h
          split at h <;> simp at h
        · rw [if_neg e] at h
          exact ⟨h, fun q => e (by omega)⟩
      · rw [if_neg hc] at h
        refine ⟨h, fun q => ?_⟩
        obtain ⟨q1, q2⟩ := q
        have e : j = k := by omega
        subst e
        rw [hv] at h
        cases h
        exact hc q2
    · next hx =>
      refine ⟨h, fun q => ?_⟩
      obtain ⟨q1, q2⟩ := q
      have e : j = k := by omega
      subst e
      exact hx w h
theorem st1_ok {θ : Th} {ls : Array Slot} {nL i : Nat} {lv : List (Option Value)} {v : Value} (h : lv_has ls nL ((i, re θ v) :: (al θ lv).filter (fun q => !(q.1 == i) && !(q.1 + 1 == i && q.2.category == 2)))) : lvh θ ls nL (st1 lv i v) := by
  refine ⟨h.1, h.2.1, fun j w hj => ?_⟩
  unfold st1 at hj
  rw [List.getElem?_set] at hj
  by_cases e : i = j
  · subst e
    rw [if_pos rfl] at hj
    split at hj
    · cases hj
      exact h.2.2 (i, re θ v) List.mem_cons_self
    · cases hj
  · rw [if_neg e] at hj
    obtain ⟨h1, h2⟩ := kl_get hj
    refine h.2.2 (j, re θ w) (List.mem_cons_of_mem _ (List.mem_filter.mpr ⟨al_mem h1, ?_⟩))
    have e2 : ¬ j = i := fun q => e q.symm
    by_cases e3 : j + 1 = i
    · have h4 : ¬ w.category = 2 := fun q => h2 ⟨e3, q⟩
      simp [e2, re_cat, h4]
    · simp [e2, e3]
theorem st2_ok {θ : Th} {ls : Array Slot} {nL i : Nat} {lv : List (Option Value)} {v : Value} (h : lv_has ls nL ((i, re θ v) :: (al θ lv).filter (fun q => !(q.1 == i) && (!(q.1 == i + 1) && !(q.1 + 1 == i && q.2.category == 2))))) : lvh θ ls nL (st2 lv i v) := by
  refine ⟨h.1, h.2.1, fun j w hj => ?_⟩
  unfold st2 at hj
  rw [List.getElem?_set] at hj
  by_cases e : i = j
  · subst e
    rw [if_pos rfl] at hj
    split at hj
    · cases hj
      exact h.2.2 (i, re θ v) List.mem_cons_self
    · cases hj
  · rw [if_neg e, List.getElem?_set] at hj
    by_cases e5 : i + 1 = j
    · rw [if_pos e5] at hj
      split at hj <;> simp at hj
    · rw [if_neg e5] at hj
      obtain ⟨h1, h2⟩ := kl_get hj
      refine h.2.2 (j, re θ w) (List.mem_cons_of_mem _ (List.mem_filter.mpr ⟨al_mem h1, ?_⟩))
      have e2 : ¬ j = i := fun q => e q.symm
      have e6 : ¬ j = i + 1 := fun q => e5 q.symm
      by_cases e3 : j + 1 = i
      · have h4 : ¬ w.category = 2 := fun q => h2 ⟨e3, q⟩
        simp [e2, e6, re_cat, h4]
      · simp [e2, e3, e6]
theorem lvh_msk {θ : Th} {ls : Array Slot} {nL : Nat} {bs : List Bool} {lv : List (Option Value)} (h : lvh θ ls nL lv) : lvh θ ls nL (msk bs lv) := by
  refine ⟨h.1, h.2.1, fun i v hi => ?_⟩
  unfold msk at hi
  rw [List.getElem?_zipWith] at hi
  refine h.2.2 i v ?_
  split at hi
  · next b o hb ho =>
    cases b
    · simp at hi
    · simp at hi
      rw [ho, hi]
  · cases hi
/-! ===== the run of a method: machine, method, its start's memory ===== -/
abbrev Zx : Type := Program × Launch × Env × Room × State × MethodId × Array Value × List Frame × Method × Code × Mm × Th
def zl (Z : Zx) : Launch := Z.2.1
def zR (Z : Zx) : Room := Z.2.2.2.1
def zs (Z : Zx) : State := Z.2.2.2.2.1
def zm (Z : Zx) : MethodId := Z.2.2.2.2.2.1
def za (Z : Zx) : Array Value := Z.2.2.2.2.2.2.1
def zmeth (Z : Zx) : Method := Z.2.2.2.2.2.2.2.2.1
def zc (Z : Zx) : Code := Z.2.2.2.2.2.2.2.2.2.1
def zμ (Z : Zx) : Mm := Z.2.2.2.2.2.2.2.2.2.2.1
def zθ (Z : Zx) : Th := Z.2.2.2.2.2.2.2.2.2.2.2
def zW (Z : Zx) (H : Heap) (locs : List Loc) (c n : Nat) (Q : State → Prop) (g : JFrame) : Prop := W Z.1 Z.2.1 Z.2.2.1 Z.2.2.2.1 Z.2.2.2.2.1 Z.2.2.2.2.2.1 Z.2.2.2.2.2.2.1 Z.2.2.2.2.2.2.2.1 Z.2.2.2.2.2.2.2.2.1 Z.2.2.2.2.2.2.2.2.2.1 H locs c n Q g
/-- a method: its bytes, its class, its locals, its frames, its locals' words, its answer's type, its name -/
abbrev MI : Type := ByteArray × String × Nat × Nat × Nat × Option FieldType × String
/-- String constants: class, place in its pool, text, number -/
def stK : List (String × Nat × String × Nat) := [("FlushViews$Group", 24, "member", 0), ("FlushViews$Group", 30, "limit", 1), ("FlushViews$Law", 93, "member", 0), ("FlushViews$Law", 99, "age", 2), ("FlushViews$Law", 101, "view", 3), ("FlushViews$Law", 103, "size", 4), ("FlushViews$Law", 105, "least", 5), ("FlushViews$Law", 107, "most", 6), ("FlushViews$Work", 73, "send", 7), ("FlushViews$Work", 79, "take", 8), ("FlushViews$Work", 81, "lose", 9), ("FlushViews$Work", 83, "tell", 10), ("FlushViews$Work", 85, "trim", 11), ("FlushViews$Work", 87, "crash", 12), ("FlushViews$Work", 89, "join", 13), ("FlushViews$Work", 91, "part", 14), ("FlushViews$Work", 93, "hold", 15), ("FlushViews$Work", 95, "view", 3), ("FlushViews$Work", 97, "again", 16)]
def sLen : List Nat := [6, 5, 3, 4, 4, 5, 4, 4, 4, 4, 4, 4, 5, 4, 4, 4, 5]
def sByt : List (List Int32) := [[109, 101, 109, 98, 101, 114], [108, 105, 109, 105, 116], [97, 103, 101], [118, 105, 101, 119], [115, 105, 122, 101], [108, 101, 97, 115, 116], [109, 111, 115, 116], [115, 101, 110, 100], [116, 97, 107, 101], [108, 111, 115, 101], [116, 101, 108, 108], [116, 114, 105, 109], [99, 114, 97, 115, 104], [106, 111, 105, 110], [112, 97, 114, 116], [104, 111, 108, 100], [97, 103, 97, 105, 110]]
/-- pairs of exceptions' classes of which the first is not the second -/
def NC : List (String × String) := [("java/lang/IllegalArgumentException", "java/util/NoSuchElementException"), ("java/lang/NullPointerException", "java/util/NoSuchElementException"), ("java/lang/IndexOutOfBoundsException", "java/util/NoSuchElementException"), ("java/lang/IndexOutOfBoundsException", "java/lang/NullPointerException"), ("java/lang/NullPointerException", "java/lang/IllegalArgumentException"), ("java/lang/IndexOutOfBoundsException", "java/lang/IllegalArgumentException")]
def CS : List (String × String) := [("java/util/NoSuchElementException", "java/util/NoSuchElementException"), ("java/lang/IllegalArgumentException", "java/lang/IllegalArgumentException"), ("java/lang/NullPointerException", "java/lang/NullPointerException"), ("java/lang/IndexOutOfBoundsException", "java/lang/IndexOutOfBoundsException"), ("java/lang/RuntimeException", "java/lang/Throwable")]
def DC : List MethodName := [⟨"java/lang/RuntimeException", "<init>", "()V"⟩, ⟨"java/lang/Exception", "<init>", "()V"⟩, ⟨"java/lang/Throwable", "<init>", "()V"⟩]
/-- what holds of the world at a method's start -/
def Bs (θ : Th) (U : State) : Prop :=
  va_K (tD θ) cl9 (tys9 θ) U ∧ (∀ w ∈ NB, va_Nw w U) ∧ va_AO "FlushViews$State" U ∧ va_AO "FlushViews$Image" U ∧ va_AOA .int U ∧ tB θ ≤ U.heap.size ∧
  vx_Zq Bundle.tN "UNASSIGNED_STACK" Bundle.steD (tA θ) U U.heap ∧ vx_Zq Bundle.tN "SUPPRESSED_SENTINEL" Bundle.listD (tA θ) U U.heap ∧
  vk_S 17 sLen sByt θ.2.2.2.2.1 θ.2.2.2.2.2 (tA θ) U U.heap ∧ (∀ e ∈ stK, vk_R e.1 e.2.1 e.2.2.1 (θ.2.2.2.2.1 e.2.2.2) U) ∧ (∀ q ∈ NC, va_Nc q.1 q.2 U) ∧ (∀ q ∈ CS, va_Nw (.castable q.1 q.2) U) ∧ (∀ x ∈ DC, va_Nw (.declares x) U) ∧
  va_Z "java/lang/String" "COMPACT_STRINGS" "Z" (.int 1) (tA θ) U U.heap ∧ (va_Z "jdk/internal/util/Preconditions" "SIOOBE_FORMATTER" "Ljava/util/function/BiFunction;" .null (tA θ) U U.heap ∨ va_Z "jdk/internal/util/Preconditions" "SIOOBE_FORMATTER" "Ljava/util/function/BiFunction;" (.ref (θ.2.2.2.2.1 999)) (tA θ) U U.heap)
def Cx (Z : Zx) (M : MI) : Prop :=
  Z.1.tables.exec = Jvm.exec ∧ (zc Z).code = M.1 ∧ (zc Z).maxLocals = M.2.2.1 ∧ (zs Z).vm.findClass M.2.1 = some (zm Z).cls ∧ (∀ w ∈ TB, w.before (za Z) (zs Z) = true) ∧ (zmeth Z).locks = false ∧ Bs (zθ Z) (zs Z) ∧ (zR Z).frames = M.2.2.2.1 ∧ (zR Z).locals = M.2.2.2.2.1 ∧ (zmeth Z).sig.returnType = M.2.2.2.2.2.1 ∧ (zl Z).stackTraces = false ∧ (zmeth Z).name = M.2.2.2.2.2.2 ∧ (zs Z).heap.size = tB (zθ Z) + mN (zμ Z)
def zOk (Z : Zx) (μ μ' : Mm) : Prop := mN (zμ Z) ≤ mN μ ∧ mS (zμ Z) ≤ mS μ ∧ mN μ' ≤ mN (zμ Z) + (zR Z).cells ∧ mS μ' ≤ mS (zμ Z) + (zR Z).slots
/-- the code at pc, with these locals, stack and memory, does the computation X -/
def GG {α : Type} (Z : Zx) (M : MI) (Ψ : α → Mm → State → Prop) (pc : Nat) (lv : List (Option Value)) (st : List Value) (μ : Mm) (X : Option (α × Mm)) : Prop :=
  ∀ (r : α) (μ' : Mm), X = some (r, μ') → mN μ ≤ mN μ' ∧ mS μ ≤ mS μ' ∧ (Cx Z M → zOk Z μ μ' → ∀ (H : Heap) (locs : List Loc) (ls : Array Slot), Rl (zθ Z) μ H → va_S (tA (zθ Z)) (zs Z).heap H locs → lvh (zθ Z) ls M.2.2.1 lv →
    zW Z H locs (mN μ - mN (zμ Z)) (mS μ - mS (zμ Z)) (Ψ r μ') (F0 (zm Z) pc ls (st.map (re (zθ Z)))))
/-! the words of computations -/
def lt9 {α β : Type} (a : α) (f : α → β) : β := f a
def gd {α : Type} (b : Bool) (x : Option α) : Option α := if b then x else none
def bd {α β : Type} (x : Option (α × Mm)) (f : α → Mm → Option β) : Option β := match x with
  | some (r, μ) => f r μ
  | none => none
def bx {α β : Type} (x : Option ((α ⊕ Nat) × Mm)) (f : α → Mm → Option β) (g : Nat → Mm → Option β) : Option β := match x with
  | some (.inl r, μ) => f r μ
  | some (.inr k, μ) => g k μ
  | none => none
def jn {α κ : Type} (k : κ) (f : κ → Option α) : Option α := f k
/-- enough for every loop -/
def NF : Nat := 100000
def nwG (μ : Mm) (N K : Nat) : Mm := (fun b i => if mN μ ≤ b then 0 else μ.1 b i, fun b i => if mN μ ≤ b then 0 else μ.2.1 b i, fun b i => if b = mN μ then (if i < N then some (mN μ + 1 + i) else none) else if mN μ ≤ b then none else μ.2.2.1 b i, sH μ ++ (106, N) :: List.replicate N (100, K), mS μ + (N + N * K))
def oc {α : Type} (o : Option Nat) (x : Option α) (f : Nat → Option α) : Option α := match o with
  | none => x
  | some q => f q
def okA (μ : Mm) (t a : Nat) (i : Int32) : Bool := match (sH μ)[a]? with
  | some q => q.1 == t && (decide (0 ≤ i.toInt) && decide (i.toInt < (q.2 : Int)))
  | none => false
def okO (μ : Mm) (a c : Nat) : Bool := match (sH μ)[a]? with
  | some q => q.1 == c && q.2 == fN c
  | none => false
def okT (μ : Mm) (t a : Nat) : Bool := match (sH μ)[a]? with
  | some q => q.1 == t
  | none => false
def ln (μ : Mm) (a : Nat) : Int32 := match (sH μ)[a]? with
  | some q => Int32.ofNat q.2
  | none => 0
def ix (i : Int32) : Nat := i.toNatClampNeg
