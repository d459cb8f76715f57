/-! L2: the storm's draws. -/
theorem dw_eq (x : Int32) : ((x.toUInt32 >>> ((16 : Int32).toUInt32 &&& Int32.toUInt32 31)).toInt32) &&& (32767 : Int32) = (x >>> ((16 : Int32) &&& 31)) &&& (32767 : Int32) := by
  refine tb_ext (fun k hk => ?_)
  rw [tb_and, tb_and]
  have hb : ∀ k, k < 32 → 15 ≤ k → tb (32767 : Int32) k = false := by decide
  by_cases h : k < 15
  · have e1 : tb ((x.toUInt32 >>> ((16 : Int32).toUInt32 &&& Int32.toUInt32 31)).toInt32) k = x.toBitVec.getLsbD (16 + k) := by
      unfold tb
      rw [ush16, BitVec.getLsbD_ushiftRight]
    have e2 : tb (x >>> ((16 : Int32) &&& 31)) k = x.toBitVec.getLsbD (16 + k) := by
      unfold tb
      show (x.toBitVec.sshiftRight 16).getLsbD k = _
      rw [BitVec.getLsbD_sshiftRight, if_pos (by omega), decide_eq_false (by omega)]
      rfl
    rw [e1, e2]
  · rw [hb k hk (by omega), Bool.and_false, Bool.and_false]
def dwS (x : Int32) : Int32 := x * (1103515245 : Int32) + (12345 : Int32)
def dwN (x : Int32) : Nat := ((x >>> ((16 : Int32) &&& 31)) &&& (32767 : Int32)).toBitVec.toNat
theorem and32767 (x : Int32) : (x &&& 32767).toBitVec.toNat < 32768 ∧ ni (x &&& 32767).toBitVec.toNat = x &&& 32767 := by
  have h : (x &&& 32767).toBitVec.toNat < 32768 := by
    rw [Int32.toBitVec_and, BitVec.toNat_and]
    exact Nat.lt_of_le_of_lt Nat.and_le_right (by decide)
  refine ⟨h, ?_⟩
  apply Int32.toBitVec_inj.mp
  show BitVec.ofNat 32 _ = _
  apply BitVec.eq_of_toNat_eq
  rw [BitVec.toNat_ofNat, Nat.mod_eq_of_lt (by omega)]
theorem dw_ni (x : Int32) {k : Nat} (hk : 0 < k) (hk2 : k ≤ 100) : ((x >>> ((16 : Int32) &&& 31)) &&& (32767 : Int32)) - ((x >>> ((16 : Int32) &&& 31)) &&& (32767 : Int32)) / ni k * ni k = ni (dwN x % k) := by
  obtain ⟨h1, h2⟩ := and32767 (x >>> ((16 : Int32) &&& 31))
  have e : ((x >>> ((16 : Int32) &&& 31)) &&& (32767 : Int32)) = ni (dwN x) := h2.symm
  have h3 : dwN x < 32768 := h1
  rw [e, ni_dv (by omega) (by omega) hk, ni_mul, ni_sub (Nat.div_mul_le_self _ _)]
  congr 1
  have := Nat.div_add_mod (dwN x) k
  rw [Nat.mul_comm] at this
  omega
theorem c_draw {x : Int32} {k : Nat} {m : Mm} (g : G m) (hk : 0 < k) (hk2 : k ≤ 100) (h : rI m 47 0 = x) : F_X8_draw 47 (ni k) m = some (ni (dwN (dwS x) % k), wI m 47 0 (dwS x)) := by
  obtain ⟨q1, q2⟩ := q_pos hk (by omega)
  have e0 : rI (wI m 47 0 (dwS x)) 47 0 = dwS x := by rw [rIw, uf_at]
  have hm : okO (wI m 47 0 (dwS x)) 47 8 = true := gO47 (G_wI g)
  unfold F_X8_draw
  rw [gO47 g, gd_t, gd_t, lt9_e, h]
  show (if ni k ≤ 0 then _ else gd (okO (wI m 47 0 (dwS x)) 47 8) _) = _
  rw [if_neg q1, hm, gd_t, decide_eq_true q2, gd_t]
  show some ((((rI (wI m 47 0 (dwS x)) 47 0).toUInt32 >>> ((16 : Int32).toUInt32 &&& Int32.toUInt32 31)).toInt32 &&& (32767 : Int32)) - (((rI (wI m 47 0 (dwS x)) 47 0).toUInt32 >>> ((16 : Int32).toUInt32 &&& Int32.toUInt32 31)).toInt32 &&& (32767 : Int32)) / ni k * ni k, wI m 47 0 (dwS x)) = _
  rw [e0, dw_eq, dw_ni _ hk hk2]
theorem r_draw {x : Int32} {k : Nat} {m : Mm} (g : G m) (hk : 0 < k) (hk2 : k ≤ 100) (h : rI m 49 36 = x) : F_X12_draw 49 (ni k) m = some (ni (dwN (dwS x) % k), wI m 49 36 (dwS x)) := by
  obtain ⟨q1, q2⟩ := q_pos hk (by omega)
  have e0 : rI (wI m 49 36 (dwS x)) 49 36 = dwS x := by rw [rIw, uf_at]
  have hm : okO (wI m 49 36 (dwS x)) 49 12 = true := gO49 (G_wI g)
  unfold F_X12_draw
  rw [gO49 g, gd_t, gd_t, lt9_e, h]
  show gd (okO (wI m 49 36 (dwS x)) 49 12) _ = _
  rw [hm, gd_t, decide_eq_true q2, gd_t]
  show some ((((rI (wI m 49 36 (dwS x)) 49 36) >>> ((16 : Int32) &&& 31)) &&& (32767 : Int32)) - (((rI (wI m 49 36 (dwS x)) 49 36) >>> ((16 : Int32) &&& 31)) &&& (32767 : Int32)) / ni k * ni k, wI m 49 36 (dwS x)) = _
  rw [e0, dw_ni _ hk hk2]
/-- one gust: the State; a who, r what, v the weight, d whether joining -/
def gsS (cs : Nat → Nat) (len n l : Nat) (d : Bool) (a r v : Nat) (σ : St) : St :=
  if r < 2 then (stepS cs len n l 0 a v σ).2
  else if r < 4 then (stepS cs len n l 1 a 0 σ).2
  else if r = 4 then (stepS cs len n l 2 a 0 σ).2
  else if r = 5 then (stepS cs len n l 3 a 0 σ).2
  else if r = 6 then (if d then (stepS cs len n l 6 a 0 σ).2 else (stepS cs len n l 5 a 0 σ).2)
  else (stepS cs len n l 9 a 0 (stepS cs len n l 8 a 0 σ).2).2
theorem WF_gs {n B len l a r v : Nat} {cs : Nat → Nat} {d : Bool} {σ : St} (ha : a < n) (h : WF n B σ) (hB : B + 2 < 1000000) (hl : l ≤ 30) : WF n (B + 2) (gsS cs len n l d a r v σ) := by
  have up : ∀ τ : St, WF n (B + 1) τ → WF n (B + 2) τ := fun τ z => WF_B z (by omega) hB
  have st : ∀ k v, k < 7 → WF n (B + 2) (stepS cs len n l k a v σ).2 := fun k v hk => up _ (WF_step h (by omega) hl (by omega) (fun _ => ha) (fun z => by omega))
  unfold gsS
  by_cases h1 : r < 2
  · rw [if_pos h1]
    exact st 0 v (by omega)
  · rw [if_neg h1]
    by_cases h2 : r < 4
    · rw [if_pos h2]
      exact st 1 0 (by omega)
    · rw [if_neg h2]
      by_cases h3 : r = 4
      · rw [if_pos h3]
        exact st 2 0 (by omega)
      · rw [if_neg h3]
        by_cases h4 : r = 5
        · rw [if_pos h4]
          exact st 3 0 (by omega)
        · rw [if_neg h4]
          by_cases h5 : r = 6
          · rw [if_pos h5]
            cases d
            · exact st 5 0 (by omega)
            · exact st 6 0 (by omega)
          · rw [if_neg h5]
            have h8 : WF n (B + 1) (stepS cs len n l 8 a 0 σ).2 := WF_step h (by omega) hl (by omega) (fun z => by omega) (fun z => by omega)
            exact WF_step h8 (by omega) hl (by omega) (fun z => by omega) (fun z => by omega)
