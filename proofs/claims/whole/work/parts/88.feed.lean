/-! L2: feed. -/
def byN (w : Int32) (j : Nat) : Nat := ((w >>> (ni (24 - 8 * j) &&& 31)) &&& 255).toBitVec.toNat
theorem and255 (x : Int32) : (x &&& 255).toBitVec.toNat < 256 ∧ ni (x &&& 255).toBitVec.toNat = x &&& 255 := by
  have h : (x &&& 255).toBitVec.toNat < 256 := by
    rw [Int32.toBitVec_and, BitVec.toNat_and]
    exact Nat.lt_of_le_of_lt Nat.and_le_right (by decide)
  refine ⟨h, ?_⟩
  apply Int32.toBitVec_inj.mp
  show BitVec.ofNat 32 _ = _
  apply BitVec.eq_of_toNat_eq
  rw [BitVec.toNat_ofNat, Nat.mod_eq_of_lt (by omega)]
theorem byN_lt (w : Int32) (j : Nat) : byN w j < 256 := (and255 _).1
theorem byN_ni (w : Int32) (j : Nat) : ni (byN w j) = (w >>> (ni (24 - 8 * j) &&& 31)) &&& 255 := (and255 _).2
theorem sx_by (x : Int32) : sx (x &&& 255).toBitVec.toNat = x.toInt8.toInt32 := by
  unfold sx
  rw [(and255 x).2, Int32.toInt8_and, show (255 : Int32).toInt8 = -1 from rfl, Int8.and_neg_one]
theorem nar_sx : ∀ k, k < 256 → vp_nar .byte (sx k) = sx k := by decide +kernel
theorem nar_by (w : Int32) (j : Nat) : vp_nar .byte ((w >>> (ni (24 - 8 * j) &&& 31)).toInt8.toInt32) = sx (byN w j) := by
  unfold byN
  rw [← sx_by]
  exact nar_sx _ (and255 _).1
