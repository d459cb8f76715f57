/-! L2: pure. Numbers, bits, memory, loops. -/
def ni (n : Nat) : Int32 := Int32.ofNat n
theorem ni_toInt {n : Nat} (h : n < 2147483648) : (ni n).toInt = (n : Int) := Int32.toInt_ofNat_of_lt h
theorem ni_le {a b : Nat} (ha : a < 2147483648) (hb : b < 2147483648) : ni a ≤ ni b ↔ a ≤ b := Int32.ofNat_le_iff_le ha hb
theorem ni_lt {a b : Nat} (ha : a < 2147483648) (hb : b < 2147483648) : ni a < ni b ↔ a < b := Int32.ofNat_lt_iff_lt ha hb
theorem ni_eq {a b : Nat} (ha : a < 2147483648) (hb : b < 2147483648) : ni a = ni b ↔ a = b := by
  rw [← Int32.toInt_inj, ni_toInt ha, ni_toInt hb]
  omega
theorem ni_add (a b : Nat) : ni a + ni b = ni (a + b) := (Int32.ofNat_add a b).symm
theorem ni_mul (a b : Nat) : ni a * ni b = ni (a * b) := (Int32.ofNat_mul a b).symm
theorem ni_sub {a b : Nat} (h : b ≤ a) : ni a - ni b = ni (a - b) := (Int32.ofNat_sub a b h).symm
theorem lit_ni (k : Nat) : (no_index (OfNat.ofNat k) : Int32) = ni k := rfl
theorem lni_le {k n : Nat} (hk : k < 2147483648) (hn : n < 2147483648) : (no_index (OfNat.ofNat k) : Int32) ≤ ni n ↔ k ≤ n := ni_le hk hn
theorem lni_lt {k n : Nat} (hk : k < 2147483648) (hn : n < 2147483648) : (no_index (OfNat.ofNat k) : Int32) < ni n ↔ k < n := ni_lt hk hn
theorem nil_le {k n : Nat} (hk : k < 2147483648) (hn : n < 2147483648) : ni n ≤ (no_index (OfNat.ofNat k) : Int32) ↔ n ≤ k := ni_le hn hk
theorem nil_lt {k n : Nat} (hk : k < 2147483648) (hn : n < 2147483648) : ni n < (no_index (OfNat.ofNat k) : Int32) ↔ n < k := ni_lt hn hk
theorem lni_eq {k n : Nat} (hk : k < 2147483648) (hn : n < 2147483648) : (no_index (OfNat.ofNat k) : Int32) = ni n ↔ k = n := ni_eq hk hn
theorem nil_eq {k n : Nat} (hk : k < 2147483648) (hn : n < 2147483648) : ni n = (no_index (OfNat.ofNat k) : Int32) ↔ n = k := ni_eq hn hk
theorem lni_add (k n : Nat) : (no_index (OfNat.ofNat k) : Int32) + ni n = ni (k + n) := ni_add k n
theorem nil_add (n k : Nat) : ni n + (no_index (OfNat.ofNat k) : Int32) = ni (n + k) := ni_add n k
theorem lni_mul (k n : Nat) : (no_index (OfNat.ofNat k) : Int32) * ni n = ni (k * n) := ni_mul k n
theorem nil_mul (n k : Nat) : ni n * (no_index (OfNat.ofNat k) : Int32) = ni (n * k) := ni_mul n k
theorem nil_sub {n k : Nat} (h : k ≤ n) : ni n - (no_index (OfNat.ofNat k) : Int32) = ni (n - k) := ni_sub h
theorem ix_ni {n : Nat} (h : n < 2147483648) : ix (ni n) = n := Int32.toNatClampNeg_ofNat_of_lt h
theorem ix_lit {k : Nat} (h : k < 2147483648) : ix (no_index (OfNat.ofNat k) : Int32) = k := Int32.toNatClampNeg_ofNat_of_lt h
theorem ni_ne1 {n : Nat} (h : n < 2147483648) : (ni n = (-1 : Int32)) ↔ False := by
  rw [← Int32.toInt_inj, ni_toInt h]
  have : (-1 : Int32).toInt = -1 := by decide
  rw [this]
  exact ⟨fun h => by omega, False.elim⟩
theorem ni_lt0 {n : Nat} (h : n < 2147483648) : (ni n < 0) ↔ False := by
  rw [show (0 : Int32) = ni 0 from rfl, ni_lt h (by omega)]
  exact ⟨fun h => by omega, False.elim⟩
theorem ni_0 : ni 0 = 0 := rfl
theorem ni_1 : ni 1 = 1 := rfl
theorem nx_of {x : Int32} (h : ¬ x < 0) : x = ni (ix x) := (Int32.ofNat_toNatClampNeg x (Int32.not_lt.mp h)).symm
theorem ix_B (x : Int32) : ix x < 2147483648 := Int32.toNatClampNeg_lt x
theorem ni_of {x : Int32} {n : Nat} (h : ¬ x < 0) (hn : n < 2147483648) (h2 : ¬ ni n ≤ x) : ∃ i, i < n ∧ x = ni i := by
  refine ⟨ix x, ?_, nx_of h⟩
  rw [nx_of h, ni_le hn (ix_B x)] at h2
  omega
/-! bits -/
def tb (x : Int32) (k : Nat) : Bool := x.toBitVec.getLsbD k
def b2i (b : Bool) : Int32 := if b then 1 else 0
theorem b2i_t : b2i true = 1 := rfl
theorem b2i_f : b2i false = 0 := rfl
theorem b2i_0 (b : Bool) : b2i b = 0 ↔ b = false := by cases b <;> decide
theorem b2i_1 (b : Bool) : b2i b = 1 ↔ b = true := by cases b <;> decide
theorem b2i_ok (b : Bool) : decide (b2i b = 0 ∨ b2i b = 1) = true := by cases b <;> decide
theorem o10 : ((1 : Int32) = 0) = False := eq_false (by decide)
theorem ft9 (b : Bool) : (b = false ∨ b = true) = True := by cases b <;> simp
theorem b2i_inj (a b : Bool) : b2i a = b2i b ↔ a = b := by cases a <;> cases b <;> decide
theorem tb_ext {x y : Int32} (h : ∀ k, k < 32 → tb x k = tb y k) : x = y :=
  Int32.toBitVec_inj.mp (BitVec.eq_of_getLsbD_eq (fun i hi => h i hi))
theorem tb_ge {x : Int32} {k : Nat} (h : 32 ≤ k) : tb x k = false := BitVec.getLsbD_of_ge _ _ h
theorem tb_and (x y : Int32) (k : Nat) : tb (x &&& y) k = (tb x k && tb y k) := by
  unfold tb
  rw [Int32.toBitVec_and, BitVec.getLsbD_and]
theorem tb_or (x y : Int32) (k : Nat) : tb (x ||| y) k = (tb x k || tb y k) := by
  unfold tb
  rw [Int32.toBitVec_or, BitVec.getLsbD_or]
theorem tb_xor (x y : Int32) (k : Nat) : tb (x ^^^ y) k = (tb x k ^^ tb y k) := by
  unfold tb
  rw [Int32.toBitVec_xor, BitVec.getLsbD_xor]
theorem tb_m1 (k : Nat) : tb (-1) k = decide (k < 32) := by
  unfold tb
  rw [show (-1 : Int32).toBitVec = BitVec.allOnes 32 from rfl, BitVec.getLsbD_allOnes]
theorem tb_0 (k : Nat) : tb 0 k = false := by
  unfold tb
  rw [show (0 : Int32).toBitVec = 0#32 from rfl, BitVec.getLsbD_zero]
theorem tb_1 (k : Nat) : tb 1 k = decide (k = 0) := by
  unfold tb
  rw [show (1 : Int32).toBitVec = 1#32 from rfl, BitVec.getLsbD_one]
  simp
theorem tb_not (x : Int32) (k : Nat) : tb (x ^^^ (-1 : Int32)) k = (decide (k < 32) && !tb x k) := by
  rw [tb_xor, tb_m1]
  by_cases h : k < 32
  · simp [h]
  · rw [tb_ge (by omega)]
    simp [h]
theorem sh_31 : ∀ k : Nat, k < 32 → (ni k &&& 31) = ni k := by decide
theorem sh_sm : ∀ k : Nat, k < 32 → ((ni k).toBitVec.smod 32).toNat = k := by decide
theorem tb_bit {k : Nat} (h : k < 32) (j : Nat) : tb ((1 : Int32) <<< (ni k &&& 31)) j = decide (j = k) := by
  rw [sh_31 k h]
  unfold tb
  rw [Int32.toBitVec_shiftLeft, BitVec.getLsbD_shiftLeft', sh_sm k h, show (1 : Int32).toBitVec = 1#32 from rfl, BitVec.getLsbD_one]
  by_cases e : j = k
  · subst e
    simp [h]
  · by_cases e2 : j < k
    · simp [e, e2]
    · have : ¬ (j - k = 0) := by omega
      simp [e, this]
theorem tst {x : Int32} {k : Nat} (h : k < 32) : ((x >>> (ni k &&& 31)) &&& (1 : Int32)) = b2i (tb x k) := by
  rw [sh_31 k h]
  apply tb_ext
  intro j hj
  rw [tb_and, tb_1]
  by_cases e : j = 0
  · subst e
    have h0 : tb (b2i (tb x k)) 0 = tb x k := by cases tb x k <;> decide
    rw [h0]
    unfold tb
    rw [Int32.toBitVec_shiftRight, BitVec.getLsbD_sshiftRight', sh_sm k h]
    simp [h]
  · have h0 : tb (b2i (tb x k)) j = false := by
      cases tb x k
      · exact tb_0 j
      · show tb 1 j = false
        rw [tb_1]
        simp [e]
    rw [h0]
    simp [e]
/-- only bits below n -/
def bel (n : Nat) (x : Int32) : Prop := ∀ k, n ≤ k → tb x k = false
/-- one is in the other -/
def sbs (x y : Int32) : Prop := ∀ k, tb x k = true → tb y k = true
theorem bel_0 (n : Nat) : bel n 0 := fun k _ => tb_0 k
theorem bel_and {n : Nat} {x y : Int32} (h : bel n x) : bel n (x &&& y) := fun k hk => by rw [tb_and, h k hk]; rfl
theorem bel_or {n : Nat} {x y : Int32} (h : bel n x) (h' : bel n y) : bel n (x ||| y) := fun k hk => by rw [tb_or, h k hk, h' k hk]; rfl
theorem bel_mono {n n' : Nat} {x : Int32} (hn : n ≤ n') (h : bel n x) : bel n' x := fun k hk => h k (by omega)
theorem eq0 {x : Int32} : x = 0 ↔ ∀ k, tb x k = false := ⟨fun h k => by rw [h, tb_0], fun h => tb_ext (fun k _ => by rw [h, tb_0])⟩
theorem andnot0 {x y : Int32} : (x &&& (y ^^^ (-1 : Int32))) = 0 ↔ sbs x y := by
  rw [eq0]
  constructor
  · intro h k hk
    have := h k
    rw [tb_and, tb_not, hk] at this
    by_cases e : k < 32
    · simpa [e] using this
    · rw [tb_ge (by omega)] at hk
      cases hk
  · intro h k
    rw [tb_and, tb_not]
    by_cases e : tb x k = true
    · simp [e, h k e]
    · simp [e]
def allB (n : Nat) : Int32 := ((1 : Int32) <<< (ni n &&& 31)) - (1 : Int32)
theorem allB_tb {n : Nat} (h : n ≤ 30) (k : Nat) : tb (allB n) k = decide (k < n) := by
  by_cases hk : k < 32
  · have H : ∀ n : Nat, n < 31 → ∀ k : Nat, k < 32 → tb (allB n) k = decide (k < n) := by decide
    exact H n (by omega) k hk
  · rw [tb_ge (by omega)]
    have : ¬ k < n := by omega
    simp [this]
theorem allB_bel {n : Nat} (h : n ≤ 30) : bel n (allB n) := fun k hk => by
  rw [allB_tb h]
  have : ¬ k < n := by omega
  simp [this]
/-! memory -/
def uf {α : Type} (f : Nat → α) (j : Nat) (v : α) : Nat → α := fun k => if k = j then v else f k
theorem uf_at {α : Type} (f : Nat → α) (j : Nat) (v : α) : uf f j v j = v := by unfold uf; rw [if_pos rfl]
theorem uf_ne {α : Type} {f : Nat → α} {j k : Nat} {v : α} (h : k ≠ j) : uf f j v k = f k := by unfold uf; rw [if_neg h]
theorem uf_ap {α : Type} (f : Nat → α) (j k : Nat) (v : α) : uf f j v k = if k = j then v else f k := rfl
theorem rIw (m : Mm) (a j : Nat) (v : Int32) : rI (wI m a j v) a = uf (rI m a) j v := by
  funext k
  show (if a = a ∧ k = j then v else m.1 a k) = (if k = j then v else m.1 a k)
  simp
theorem rIw_ne {m : Mm} {a b j : Nat} {v : Int32} (h : b ≠ a) : rI (wI m a j v) b = rI m b := by
  funext k
  show (if b = a ∧ k = j then v else m.1 b k) = m.1 b k
  rw [if_neg (fun q => h q.1)]
theorem rLw (m : Mm) (a j : Nat) (v : Int64) : rL (wL m a j v) a = uf (rL m a) j v := by
  funext k
  show (if a = a ∧ k = j then v else m.2.1 a k) = (if k = j then v else m.2.1 a k)
  simp
theorem rLw_ne {m : Mm} {a b j : Nat} {v : Int64} (h : b ≠ a) : rL (wL m a j v) b = rL m b := by
  funext k
  show (if b = a ∧ k = j then v else m.2.1 b k) = m.2.1 b k
  rw [if_neg (fun q => h q.1)]
theorem rRw (m : Mm) (a j : Nat) (v : Option Nat) : rR (wR m a j v) a = uf (rR m a) j v := by
  funext k
  show (if a = a ∧ k = j then v else m.2.2.1 a k) = (if k = j then v else m.2.2.1 a k)
  simp
theorem rRw_ne {m : Mm} {a b j : Nat} {v : Option Nat} (h : b ≠ a) : rR (wR m a j v) b = rR m b := by
  funext k
  show (if b = a ∧ k = j then v else m.2.2.1 b k) = m.2.2.1 b k
  rw [if_neg (fun q => h q.1)]
theorem rLwI (m : Mm) (a j : Nat) (v : Int32) : rL (wI m a j v) = rL m := rfl
theorem rRwI (m : Mm) (a j : Nat) (v : Int32) : rR (wI m a j v) = rR m := rfl
theorem sHwI (m : Mm) (a j : Nat) (v : Int32) : sH (wI m a j v) = sH m := rfl
theorem mSwI (m : Mm) (a j : Nat) (v : Int32) : mS (wI m a j v) = mS m := rfl
theorem mNwI (m : Mm) (a j : Nat) (v : Int32) : mN (wI m a j v) = mN m := rfl
theorem rIwL (m : Mm) (a j : Nat) (v : Int64) : rI (wL m a j v) = rI m := rfl
theorem rRwL (m : Mm) (a j : Nat) (v : Int64) : rR (wL m a j v) = rR m := rfl
theorem sHwL (m : Mm) (a j : Nat) (v : Int64) : sH (wL m a j v) = sH m := rfl
theorem mSwL (m : Mm) (a j : Nat) (v : Int64) : mS (wL m a j v) = mS m := rfl
theorem mNwL (m : Mm) (a j : Nat) (v : Int64) : mN (wL m a j v) = mN m := rfl
theorem rIwR (m : Mm) (a j : Nat) (v : Option Nat) : rI (wR m a j v) = rI m := rfl
theorem rLwR (m : Mm) (a j : Nat) (v : Option Nat) : rL (wR m a j v) = rL m := rfl
theorem sHwR (m : Mm) (a j : Nat) (v : Option Nat) : sH (wR m a j v) = sH m := rfl
theorem mSwR (m : Mm) (a j : Nat) (v : Option Nat) : mS (wR m a j v) = mS m := rfl
theorem mNwR (m : Mm) (a j : Nat) (v : Option Nat) : mN (wR m a j v) = mN m := rfl
theorem okO_of {m : Mm} {a c : Nat} (h : (sH m)[a]? = some (c, fN c)) : okO m a c = true := by
  unfold okO
  rw [h]
  simp
theorem okT_of {m : Mm} {t a n : Nat} (h : (sH m)[a]? = some (t, n)) : okT m t a = true := by
  unfold okT
  rw [h]
  simp
theorem okA_of {m : Mm} {t a n i : Nat} (h : (sH m)[a]? = some (t, n)) (hi : i < n) (hn : n < 2147483648) : okA m t a (ni i) = true := by
  unfold okA
  rw [h]
  simp only [ni_toInt (show i < 2147483648 by omega), beq_self_eq_true, Bool.true_and]
  have h1 : (0 : Int) ≤ (i : Int) := by omega
  have h2 : (i : Int) < (n : Int) := by omega
  simp [h1, h2]
theorem okA_lit {m : Mm} {t a n i : Nat} (h : (sH m)[a]? = some (t, n)) (hi : i < n) (hn : n < 2147483648) : okA m t a (no_index (OfNat.ofNat i) : Int32) = true := okA_of h hi hn
theorem ln_of {m : Mm} {t a n : Nat} (h : (sH m)[a]? = some (t, n)) : ln m a = ni n := by
  unfold ln
  rw [h]
  rfl
theorem okOe {m m' : Mm} (h : sH m' = sH m) (a c : Nat) : okO m' a c = okO m a c := by unfold okO; rw [h]
theorem okTe {m m' : Mm} (h : sH m' = sH m) (t a : Nat) : okT m' t a = okT m t a := by unfold okT; rw [h]
theorem okAe {m m' : Mm} (h : sH m' = sH m) (t a : Nat) (i : Int32) : okA m' t a i = okA m t a i := by unfold okA; rw [h]
theorem lne {m m' : Mm} (h : sH m' = sH m) (a : Nat) : ln m' a = ln m a := by unfold ln; rw [h]
theorem okOwI (m : Mm) (a j : Nat) (v : Int32) (b c : Nat) : okO (wI m a j v) b c = okO m b c := rfl
theorem okAwI (m : Mm) (a j : Nat) (v : Int32) (t b : Nat) (i : Int32) : okA (wI m a j v) t b i = okA m t b i := rfl
theorem okTwI (m : Mm) (a j : Nat) (v : Int32) (t b : Nat) : okT (wI m a j v) t b = okT m t b := rfl
theorem lnwI (m : Mm) (a j : Nat) (v : Int32) (b : Nat) : ln (wI m a j v) b = ln m b := rfl
theorem okOwL (m : Mm) (a j : Nat) (v : Int64) (b c : Nat) : okO (wL m a j v) b c = okO m b c := rfl
theorem okAwL (m : Mm) (a j : Nat) (v : Int64) (t b : Nat) (i : Int32) : okA (wL m a j v) t b i = okA m t b i := rfl
theorem okTwL (m : Mm) (a j : Nat) (v : Int64) (t b : Nat) : okT (wL m a j v) t b = okT m t b := rfl
theorem lnwL (m : Mm) (a j : Nat) (v : Int64) (b : Nat) : ln (wL m a j v) b = ln m b := rfl
theorem okOwR (m : Mm) (a j : Nat) (v : Option Nat) (b c : Nat) : okO (wR m a j v) b c = okO m b c := rfl
theorem okAwR (m : Mm) (a j : Nat) (v : Option Nat) (t b : Nat) (i : Int32) : okA (wR m a j v) t b i = okA m t b i := rfl
theorem okTwR (m : Mm) (a j : Nat) (v : Option Nat) (t b : Nat) : okT (wR m a j v) t b = okT m t b := rfl
theorem lnwR (m : Mm) (a j : Nat) (v : Option Nat) (b : Nat) : ln (wR m a j v) b = ln m b := rfl
theorem gd_t {α : Type} (x : Option α) : gd true x = x := congrArg (fun z => z) (Eq.refl (gd true x))
theorem bd_s {α β : Type} (r : α) (m : Mm) (f : α → Mm → Option β) : bd (some (r, m)) f = f r m := congrArg (fun z => z) (Eq.refl (bd (some (r, m)) f))
theorem bx_l {α β : Type} (r : α) (m : Mm) (f : α → Mm → Option β) (g : Nat → Mm → Option β) : bx (some (.inl r, m)) f g = f r m := congrArg (fun z => z) (Eq.refl (bx (some (Sum.inl r, m)) f g))
theorem bx_r {α β : Type} (r : Nat) (m : Mm) (f : α → Mm → Option β) (g : Nat → Mm → Option β) : bx (some (.inr r, m)) f g = g r m := congrArg (fun z => z) (Eq.refl (bx (some (Sum.inr r, m)) f g))
theorem oc_s {α : Type} (q : Nat) (x : Option α) (f : Nat → Option α) : oc (some q) x f = f q := congrArg (fun z => z) (Eq.refl (oc (some q) x f))
theorem oc_n {α : Type} (x : Option α) (f : Nat → Option α) : oc none x f = x := congrArg (fun z => z) (Eq.refl (oc none x f))
theorem lt9_e {α β : Type} (a : α) (f : α → β) : lt9 a f = f a := congrArg (fun z => z) (Eq.refl (lt9 a f))
theorem jn_e {α κ : Type} (k : κ) (f : κ → Option α) : jn k f = f k := congrArg (fun z => z) (Eq.refl (jn k f))
/-- only ints and longs of cells of A differ -/
def Fm (A : Nat → Prop) (m m' : Mm) : Prop := (∀ b, ¬ A b → rI m' b = rI m b ∧ rL m' b = rL m b) ∧ rR m' = rR m ∧ sH m' = sH m ∧ mS m' = mS m
theorem Fm_refl (A : Nat → Prop) (m : Mm) : Fm A m m := ⟨fun _ _ => ⟨rfl, rfl⟩, rfl, rfl, rfl⟩
theorem Fm_trans {A : Nat → Prop} {m m1 m2 : Mm} (h : Fm A m m1) (h' : Fm A m1 m2) : Fm A m m2 :=
  ⟨fun b hb => ⟨(h'.1 b hb).1.trans (h.1 b hb).1, (h'.1 b hb).2.trans (h.1 b hb).2⟩, h'.2.1.trans h.2.1, h'.2.2.1.trans h.2.2.1, h'.2.2.2.trans h.2.2.2⟩
theorem Fm_mono {A B : Nat → Prop} {m m1 : Mm} (hs : ∀ b, A b → B b) (h : Fm A m m1) : Fm B m m1 :=
  ⟨fun b hb => h.1 b (fun q => hb (hs b q)), h.2⟩
theorem Fm_wI {A : Nat → Prop} {m m1 : Mm} {a j : Nat} {v : Int32} (h : Fm A m m1) (ha : A a) : Fm A m (wI m1 a j v) :=
  ⟨fun b hb => ⟨(rIw_ne (a := a) (b := b) (fun q => hb (by rw [q]; exact ha))).trans (h.1 b hb).1, (h.1 b hb).2⟩, h.2⟩
theorem Fm_wL {A : Nat → Prop} {m m1 : Mm} {a j : Nat} {v : Int64} (h : Fm A m m1) (ha : A a) : Fm A m (wL m1 a j v) :=
  ⟨fun b hb => ⟨(h.1 b hb).1, (rLw_ne (a := a) (b := b) (fun q => hb (by rw [q]; exact ha))).trans (h.1 b hb).2⟩, h.2⟩
/-! loops -/
def itn {α : Type} (f : Nat → α → α) : Nat → Nat → α → α
  | 0, _, a => a
  | d + 1, i, a => itn f d (i + 1) (f i a)
theorem lp_eq {α β : Type} {L : Nat → Int32 → α → Option β} {f : Nat → α → α} {fin : α → Option β} {N : Nat}
    (hs : ∀ n i a, i < N → L (n + 1) (ni i) a = L n (ni (i + 1)) (f i a)) (he : ∀ n a, L (n + 1) (ni N) a = fin a) :
    ∀ (d i fuel : Nat) (a : α), i + d = N → d < fuel → L fuel (ni i) a = fin (itn f d i a) := by
  intro d
  induction d with
  | zero =>
    intro i fuel a hi hf
    cases fuel with
    | zero => omega
    | succ n =>
      have : i = N := by omega
      subst this
      exact he n a
  | succ d ih =>
    intro i fuel a hi hf
    cases fuel with
    | zero => omega
    | succ n =>
      rw [hs n i a (by omega)]
      exact ih (i + 1) n (f i a) (by omega) (by omega)
theorem lp_rel {S T β : Type} {L : Nat → Int32 → S → Option β} {f : Nat → T → T} {R : Nat → S → T → Prop} {fin : S → Option β} {N : Nat}
    (hs : ∀ n i s t, i < N → R i s t → ∃ s', L (n + 1) (ni i) s = L n (ni (i + 1)) s' ∧ R (i + 1) s' (f i t)) (he : ∀ n s t, R N s t → L (n + 1) (ni N) s = fin s) :
    ∀ (d i fuel : Nat) (s : S) (t : T), i + d = N → d < fuel → R i s t → ∃ s', L fuel (ni i) s = fin s' ∧ R N s' (itn f d i t) := by
  intro d
  induction d with
  | zero =>
    intro i fuel s t hi hf hr
    cases fuel with
    | zero => omega
    | succ n =>
      have : i = N := by omega
      subst this
      exact ⟨s, he n s t hr, hr⟩
  | succ d ih =>
    intro i fuel s t hi hf hr
    cases fuel with
    | zero => omega
    | succ n =>
      obtain ⟨s', e, hr'⟩ := hs n i s t (by omega) hr
      obtain ⟨s2, e2, hr2⟩ := ih (i + 1) n s' (f i t) (by omega) (by omega) hr'
      exact ⟨s2, e.trans e2, hr2⟩
theorem itn_id {α : Type} {f : Nat → α → α} {a : α} : ∀ (d i : Nat), (∀ k, i ≤ k → k < i + d → f k a = a) → itn f d i a = a := by
  intro d
  induction d with
  | zero =>
    intro i h
    rfl
  | succ d ih =>
    intro i h
    show itn f d (i + 1) (f i a) = a
    rw [h i (by omega) (by omega)]
    exact ih (i + 1) (fun k h1 h2 => h k (by omega) (by omega))
theorem itn_add {α : Type} {f : Nat → α → α} : ∀ (d e i : Nat) (a : α), itn f (d + e) i a = itn f e (i + d) (itn f d i a) := by
  intro d
  induction d with
  | zero =>
    intro e i a
    rw [Nat.zero_add, Nat.add_zero]
    rfl
  | succ d ih =>
    intro e i a
    rw [show d + 1 + e = (d + e) + 1 by omega]
    show itn f (d + e) (i + 1) (f i a) = itn f e (i + (d + 1)) (itn f d (i + 1) (f i a))
    rw [ih e (i + 1) (f i a), show i + 1 + d = i + (d + 1) by omega]
theorem itn_inv {α : Type} {f : Nat → α → α} {P : Nat → α → Prop} : ∀ (d i : Nat) (a : α), P i a → (∀ k b, i ≤ k → k < i + d → P k b → P (k + 1) (f k b)) → P (i + d) (itn f d i a) := by
  intro d
  induction d with
  | zero =>
    intro i a h _
    exact h
  | succ d ih =>
    intro i a h hs
    have := ih (i + 1) (f i a) (hs i a (by omega) (by omega) h) (fun k b h1 h2 h3 => hs k b (by omega) (by omega) h3)
    rw [show i + (d + 1) = i + 1 + d by omega]
    exact this
theorem itn_cg {α : Type} {f g : Nat → α → α} {P : Nat → α → Prop} : ∀ (d i : Nat) (a : α), P i a → (∀ k b, i ≤ k → k < i + d → P k b → f k b = g k b ∧ P (k + 1) (g k b)) → itn f d i a = itn g d i a := by
  intro d
  induction d with
  | zero =>
    intro i a _ _
    rfl
  | succ d ih =>
    intro i a h hs
    show itn f d (i + 1) (f i a) = itn g d (i + 1) (g i a)
    obtain ⟨e, h'⟩ := hs i a (by omega) (by omega) h
    rw [e]
    exact ih (i + 1) (g i a) h' (fun k b h1 h2 h3 => hs k b (by omega) (by omega) h3)
