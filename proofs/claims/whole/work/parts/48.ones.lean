/-! L2: counts of bits. -/
def smN (f : Nat → Nat) : Nat → Nat
  | 0 => 0
  | d + 1 => smN f d + f d
theorem smN_cg {f g : Nat → Nat} : ∀ d, (∀ k, k < d → f k = g k) → smN f d = smN g d := by
  intro d
  induction d with
  | zero =>
    intro _
    rfl
  | succ d ih =>
    intro h
    rw [smN, smN, ih (fun k hk => h k (by omega)), h d (by omega)]
theorem smN_0 {f : Nat → Nat} : ∀ d, (∀ k, k < d → f k = 0) → smN f d = 0 := by
  intro d
  induction d with
  | zero =>
    intro _
    rfl
  | succ d ih =>
    intro h
    rw [smN, ih (fun k hk => h k (by omega)), h d (by omega)]
theorem smN_add {f g : Nat → Nat} : ∀ d, smN (fun k => f k + g k) d = smN f d + smN g d := by
  intro d
  induction d with
  | zero => rfl
  | succ d ih =>
    rw [smN, smN, smN, ih]
    omega
theorem smN_swap {f : Nat → Nat → Nat} : ∀ d e, smN (fun i => smN (fun k => f i k) e) d = smN (fun k => smN (fun i => f i k) d) e := by
  intro d e
  induction d with
  | zero =>
    symm
    exact smN_0 e (fun k _ => rfl)
  | succ d ih =>
    rw [smN, ih]
    exact (smN_add e).symm
theorem smN_le {f : Nat → Nat} {b : Nat} : ∀ d, (∀ k, k < d → f k ≤ b) → smN f d ≤ d * b := by
  intro d
  induction d with
  | zero =>
    intro _
    rw [smN]
    omega
  | succ d ih =>
    intro h
    have h1 := ih (fun k hk => h k (by omega))
    have h2 := h d (by omega)
    rw [smN, Nat.succ_mul]
    omega
theorem smN_tail {f : Nat → Nat} {n d : Nat} (h : n ≤ d) (hz : ∀ k, n ≤ k → f k = 0) : smN f d = smN f n := by
  induction d with
  | zero =>
    have : n = 0 := by omega
    rw [this]
  | succ d ih =>
    by_cases e : n = d + 1
    · rw [e]
    · rw [smN, ih (by omega), hz d (by omega)]
      omega
def cb (x : Int32) (d : Nat) : Nat := smN (fun k => (tb x k).toNat) d
theorem cb_le (x : Int32) (d : Nat) : cb x d ≤ d := by
  have := smN_le (f := fun k => (tb x k).toNat) (b := 1) d (fun k _ => by cases tb x k <;> simp)
  unfold cb
  omega
theorem cb_tail {x : Int32} {n d : Nat} (h : n ≤ d) (hb : bel n x) : cb x d = cb x n := smN_tail h (fun k hk => by rw [hb k hk]; rfl)
theorem and8 {u c v d : Nat} (hu : u < 256) (hc : c < 256) : (256 * v + u) &&& (256 * d + c) = 256 * (v &&& d) + (u &&& c) := by
  apply Nat.eq_of_testBit_eq
  intro i
  have h3 : u &&& c < 2 ^ 8 := Nat.and_lt_two_pow u (show c < 2 ^ 8 by omega)
  rw [Nat.testBit_and, show 256 = 2 ^ 8 from rfl, Nat.testBit_two_pow_mul_add v (show u < 2 ^ 8 by omega), Nat.testBit_two_pow_mul_add d (show c < 2 ^ 8 by omega), Nat.testBit_two_pow_mul_add _ h3]
  split <;> rw [Nat.testBit_and]
def B4 (a b c d : Nat) : Nat := 256 * (256 * (256 * a + b) + c) + d
theorem B4_and {a b c d x : Nat} (hb : b < 256) (hc : c < 256) (hd : d < 256) (hx : x < 256) : B4 a b c d &&& B4 x x x x = B4 (a &&& x) (b &&& x) (c &&& x) (d &&& x) := by
  unfold B4
  rw [and8 hd hx, and8 hc hx, and8 hb hx]
def q1 (p : Nat) : Nat := p - ((p / 2) &&& 85)
def q2 (p : Nat) : Nat := (p &&& 51) + ((p / 4) &&& 51)
def q3 (p : Nat) : Nat := (p + p / 16) &&& 15
theorem q1_a : ∀ p, p < 256 → (p / 2) &&& 85 ≤ p ∧ q1 p < 256 := by decide +kernel
theorem q1_b : ∀ p, p < 256 → ∀ r, r < 2 → (p / 2 + 128 * r) &&& 85 = (p / 2) &&& 85 := by decide +kernel
theorem q2_a : ∀ p, p < 256 → (p &&& 51) < 256 ∧ q2 (q1 p) ≤ 68 ∧ q2 (q1 p) % 16 ≤ 4 := by decide +kernel
theorem q2_b : ∀ p, p < 256 → ∀ r, r < 4 → (p / 4 + 64 * r) &&& 51 = (p / 4) &&& 51 := by decide +kernel
theorem q2_c : ∀ p, p < 64 → p &&& 51 < 64 := by decide +kernel
theorem q3_b : ∀ p, p < 73 → ∀ r, r < 5 → (p + 16 * r) &&& 15 = p &&& 15 := by decide +kernel
theorem q3_a : ∀ p, p < 256 → q3 (q2 (q1 p)) = p % 2 + p / 2 % 2 + p / 4 % 2 + p / 8 % 2 + p / 16 % 2 + p / 32 % 2 + p / 64 % 2 + p / 128 % 2 := by decide +kernel
theorem q3_c : ∀ p, p < 256 → q3 (q2 (q1 p)) ≤ 8 := by decide +kernel
/-- the count as the machine does it, on numbers -/
def pcN (a : Nat) : Nat :=
  let x1 := (4294967296 - ((a / 2) &&& 1431655765) + a) % 4294967296
  let x2 := ((x1 &&& 858993459) + ((x1 / 4) &&& 858993459)) % 4294967296
  let x3 := ((x2 + x2 / 16) % 4294967296) &&& 252645135
  let x4 := (x3 + x3 / 256) % 4294967296
  let x5 := (x4 + x4 / 65536) % 4294967296
  x5 &&& 63
theorem pcN_B {a b c d : Nat} (ha : a < 256) (hb : b < 256) (hc : c < 256) (hd : d < 256) : pcN (B4 a b c d) = q3 (q2 (q1 a)) + q3 (q2 (q1 b)) + q3 (q2 (q1 c)) + q3 (q2 (q1 d)) := by
  have s1 : (4294967296 - ((B4 a b c d / 2) &&& 1431655765) + B4 a b c d) % 4294967296 = B4 (q1 a) (q1 b) (q1 c) (q1 d) := by
    have e : B4 a b c d / 2 = B4 (a / 2) (b / 2 + 128 * (a % 2)) (c / 2 + 128 * (b % 2)) (d / 2 + 128 * (c % 2)) := by unfold B4; omega
    rw [e, show 1431655765 = B4 85 85 85 85 from rfl, B4_and (by omega) (by omega) (by omega) (by omega), q1_b b hb _ (by omega), q1_b c hc _ (by omega), q1_b d hd _ (by omega)]
    have h1 := (q1_a a ha).1
    have h2 := (q1_a b hb).1
    have h3 := (q1_a c hc).1
    have h4 := (q1_a d hd).1
    unfold B4 q1
    generalize (a / 2) &&& 85 = a' at *
    generalize (b / 2) &&& 85 = b' at *
    generalize (c / 2) &&& 85 = c' at *
    generalize (d / 2) &&& 85 = d' at *
    omega
  have t1 := (q1_a a ha).2
  have t2 := (q1_a b hb).2
  have t3 := (q1_a c hc).2
  have t4 := (q1_a d hd).2
  have u1 := q2_a a ha
  have u2 := q2_a b hb
  have u3 := q2_a c hc
  have u4 := q2_a d hd
  have v1 := q3_c a ha
  have v2 := q3_c b hb
  have v3 := q3_c c hc
  have v4 := q3_c d hd
  unfold pcN
  simp only [s1]
  generalize q1 a = a1 at *
  generalize q1 b = b1 at *
  generalize q1 c = c1 at *
  generalize q1 d = d1 at *
  have s2 : ((B4 a1 b1 c1 d1 &&& 858993459) + ((B4 a1 b1 c1 d1 / 4) &&& 858993459)) % 4294967296 = B4 (q2 a1) (q2 b1) (q2 c1) (q2 d1) := by
    have e : B4 a1 b1 c1 d1 / 4 = B4 (a1 / 4) (b1 / 4 + 64 * (a1 % 4)) (c1 / 4 + 64 * (b1 % 4)) (d1 / 4 + 64 * (c1 % 4)) := by unfold B4; omega
    rw [e, show 858993459 = B4 51 51 51 51 from rfl, B4_and t2 t3 t4 (by omega), B4_and (by omega) (by omega) (by omega) (by omega), q2_b b1 t2 _ (by omega), q2_b c1 t3 _ (by omega), q2_b d1 t4 _ (by omega)]
    have u1 := u1.2.1
    have u2 := u2.2.1
    have u3 := u3.2.1
    have u4 := u4.2.1
    unfold q2 at *
    unfold B4
    generalize (a1 / 4) &&& 51 = a' at *
    generalize (b1 / 4) &&& 51 = b' at *
    generalize (c1 / 4) &&& 51 = c' at *
    generalize (d1 / 4) &&& 51 = d' at *
    generalize a1 &&& 51 = a'' at *
    generalize b1 &&& 51 = b'' at *
    generalize c1 &&& 51 = c'' at *
    generalize d1 &&& 51 = d'' at *
    omega
  simp only [s2]
  generalize q2 a1 = a2 at *
  generalize q2 b1 = b2 at *
  generalize q2 c1 = c2 at *
  generalize q2 d1 = d2 at *
  have s3 : ((B4 a2 b2 c2 d2 + B4 a2 b2 c2 d2 / 16) % 4294967296) &&& 252645135 = B4 (q3 a2) (q3 b2) (q3 c2) (q3 d2) := by
    have e : (B4 a2 b2 c2 d2 + B4 a2 b2 c2 d2 / 16) % 4294967296 = B4 (a2 + a2 / 16) ((b2 + b2 / 16) + 16 * (a2 % 16)) ((c2 + c2 / 16) + 16 * (b2 % 16)) ((d2 + d2 / 16) + 16 * (c2 % 16)) := by unfold B4; omega
    rw [e, show 252645135 = B4 15 15 15 15 from rfl, B4_and (by omega) (by omega) (by omega) (by omega), q3_b (b2 + b2 / 16) (by omega) _ (by omega), q3_b (c2 + c2 / 16) (by omega) _ (by omega), q3_b (d2 + d2 / 16) (by omega) _ (by omega)]
    rfl
  simp only [s3]
  rw [show 63 = 2 ^ 6 - 1 from rfl, Nat.and_two_pow_sub_one_eq_mod]
  clear s1 s2 s3 u1 u2 u3 u4 t1 t2 t3 t4
  generalize q3 a2 = a3 at *
  generalize q3 b2 = b3 at *
  generalize q3 c2 = c3 at *
  generalize q3 d2 = d3 at *
  have s4 : (B4 a3 b3 c3 d3 + B4 a3 b3 c3 d3 / 256) % 4294967296 = B4 a3 (a3 + b3) (b3 + c3) (c3 + d3) := by
    have e : B4 a3 b3 c3 d3 / 256 = 256 * (256 * a3 + b3) + c3 := by unfold B4; omega
    rw [e]
    unfold B4
    omega
  have s5 : (B4 a3 (a3 + b3) (b3 + c3) (c3 + d3) + B4 a3 (a3 + b3) (b3 + c3) (c3 + d3) / 65536) % 4294967296 = B4 a3 (a3 + b3) (a3 + b3 + c3) (a3 + b3 + c3 + d3) := by
    have e : B4 a3 (a3 + b3) (b3 + c3) (c3 + d3) / 65536 = 256 * a3 + (a3 + b3) := by unfold B4; omega
    rw [e]
    unfold B4
    omega
  rw [s4, s5]
  unfold B4
  omega
theorem ush1 (x : Int32) : ((x.toUInt32 >>> ((1 : Int32).toUInt32 &&& Int32.toUInt32 31)).toInt32).toBitVec = x.toBitVec >>> 1 := rfl
theorem ush2 (x : Int32) : ((x.toUInt32 >>> ((2 : Int32).toUInt32 &&& Int32.toUInt32 31)).toInt32).toBitVec = x.toBitVec >>> 2 := rfl
theorem ush4 (x : Int32) : ((x.toUInt32 >>> ((4 : Int32).toUInt32 &&& Int32.toUInt32 31)).toInt32).toBitVec = x.toBitVec >>> 4 := rfl
theorem ush8 (x : Int32) : ((x.toUInt32 >>> ((8 : Int32).toUInt32 &&& Int32.toUInt32 31)).toInt32).toBitVec = x.toBitVec >>> 8 := rfl
theorem ush16 (x : Int32) : ((x.toUInt32 >>> ((16 : Int32).toUInt32 &&& Int32.toUInt32 31)).toInt32).toBitVec = x.toBitVec >>> 16 := rfl
theorem bc_pc (x : Int32) : (bcI x).toBitVec.toNat = pcN x.toBitVec.toNat := by
  unfold bcI F_J6_bitCount_0f7a4 pcN
  simp only [lt9_e, Option.map_some, Option.getD_some]
  simp only [Int32.toBitVec_and, Int32.toBitVec_add, Int32.toBitVec_sub, ush1, ush2, ush4, ush8, ush16, BitVec.toNat_and, BitVec.toNat_add, BitVec.toNat_sub, BitVec.toNat_ushiftRight, Nat.shiftRight_eq_div_pow, Nat.reducePow]
  rfl
theorem smN_byte (a : Nat) (d : Nat) : smN (fun k => (a.testBit k).toNat) (d + 8) = smN (fun k => (a.testBit k).toNat) d + q3 (q2 (q1 (a / 2 ^ d % 256))) := by
  have h : ∀ i, (a.testBit (d + i)).toNat = a / 2 ^ d / 2 ^ i % 2 := by
    intro i
    rw [Nat.toNat_testBit, Nat.pow_add, Nat.div_div_eq_div_mul]
  rw [q3_a _ (Nat.mod_lt _ (by omega))]
  simp only [smN, Nat.add_assoc d, show ∀ k, d + (k + 1) = d + (k + 1) from fun _ => rfl]
  have h0 := h 0
  have h1 := h 1
  have h2 := h 2
  have h3 := h 3
  have h4 := h 4
  have h5 := h 5
  have h6 := h 6
  have h7 := h 7
  simp only [Nat.add_zero] at h0
  simp only [Nat.reduceAdd]
  rw [h0, h1, h2, h3, h4, h5, h6, h7]
  generalize a / 2 ^ d = p
  simp only [Nat.reducePow]
  omega
theorem bc_cb (x : Int32) : bcI x = ni (cb x 32) := by
  have hx : x.toBitVec.toNat < 4294967296 := x.toBitVec.isLt
  have e : ∀ d, cb x d = smN (fun k => (x.toBitVec.toNat.testBit k).toNat) d := fun d => rfl
  have h := bc_pc x
  have h32 : cb x 32 = pcN x.toBitVec.toNat := by
    rw [e]
    generalize x.toBitVec.toNat = a at hx ⊢
    have hB : a = B4 (a / 16777216 % 256) (a / 65536 % 256) (a / 256 % 256) (a % 256) := by unfold B4; omega
    rw [smN_byte a 24, smN_byte a 16, smN_byte a 8, smN_byte a 0]
    conv => rhs; rw [hB]
    rw [pcN_B (by omega) (by omega) (by omega) (by omega)]
    simp only [smN, Nat.reducePow, Nat.div_one]
    omega
  rw [← h32] at h
  have hle := cb_le x 32
  apply Int32.toBitVec_inj.mp
  apply BitVec.eq_of_toNat_eq
  rw [h]
  show cb x 32 = (BitVec.ofNat 32 (cb x 32)).toNat
  rw [BitVec.toNat_ofNat]
  omega
theorem b2i_ni (b : Bool) : b2i b = ni b.toNat := by cases b <;> rfl
theorem r_ones (x : Int32) (m : Mm) : F_X12_ones x m = some (ni (cb x 30), m) := by
  unfold F_X12_ones
  simp only [lt9_e]
  have h := lp_eq (L := fun n i a => L_X12_ones_4 n x a i m) (f := fun k a => a + b2i (tb x k)) (N := 30) (fin := fun a => some (a, m)) ?_ ?_ 30 0 NF 0 (by omega) (by decide)
  · rw [ni_0] at h
    refine h.trans ?_
    have z : ∀ (d i : Nat), itn (fun k a => a + b2i (tb x k)) d i (ni (cb x i)) = ni (cb x (i + d)) := by
      intro d
      induction d with
      | zero =>
        intro i
        rfl
      | succ d ih =>
        intro i
        show itn _ d (i + 1) (ni (cb x i) + b2i (tb x i)) = _
        rw [b2i_ni, ni_add, show cb x i + (tb x i).toNat = cb x (i + 1) from rfl, ih (i + 1), show i + 1 + d = i + (d + 1) by omega]
    rw [show (0 : Int32) = ni (cb x 0) from rfl, z 30 0]
  · intro n i a hi
    show L_X12_ones_4 (n + 1) x a (ni i) m = _
    rw [L_X12_ones_4]
    simp (disch := first | omega | decide) only [lni_le, ↓if_pos, ↓if_neg, lt9_e, tst, nil_add]
  · intro n a
    show L_X12_ones_4 (n + 1) x a (ni 30) m = _
    rw [L_X12_ones_4]
    simp (disch := first | omega | decide) only [lni_le, ↓if_pos, ↓if_neg]
theorem ones_bc {x : Int32} (h : bel 30 x) : ni (cb x 30) = bcI x := by
  rw [bc_cb, cb_tail (n := 30) (d := 32) (by omega) h]
theorem r_onesB {x : Int32} (h : bel 30 x) (m : Mm) : F_X12_ones x m = some (bcI x, m) := by
  rw [r_ones, ones_bc h]
