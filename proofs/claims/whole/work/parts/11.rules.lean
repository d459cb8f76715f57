section G1
variable {α : Type} {Z : Zx} {M : MI} {Ψ : α → Mm → State → Prop} {pc : Nat} {lv : List (Option Value)} {st : List Value} {μ : Mm} {X Y : Option (α × Mm)}
/-- a step that changes neither memory nor locals -/
theorem g_pure {pc' : Nat} {st' : List Value} (k : GG Z M Ψ pc' lv st' μ X)
    (f : ∀ (C : Cx Z M) (H : Heap) (locs : List Loc) (c n : Nat) (Q : State → Prop) (ls : Array Slot), Rl (zθ Z) μ H → va_S (tA (zθ Z)) (zs Z).heap H locs → lvh (zθ Z) ls M.2.2.1 lv → zW Z H locs c n Q (F0 (zm Z) pc' ls (st'.map (re (zθ Z)))) → zW Z H locs c n Q (F0 (zm Z) pc ls (st.map (re (zθ Z))))) : GG Z M Ψ pc lv st μ X := by
  intro r μ' hX
  obtain ⟨h1, h2, h3⟩ := k r μ' hX
  exact ⟨h1, h2, fun C O H locs ls hR hS hl => f C H locs _ _ _ ls hR hS hl (h3 C O H locs ls hR hS hl)⟩
/-- .. behind a guard -/
theorem g_gp {b : Bool} {pc' : Nat} {st' : List Value} (k : GG Z M Ψ pc' lv st' μ X)
    (f : b = true → ∀ (C : Cx Z M) (H : Heap) (locs : List Loc) (c n : Nat) (Q : State → Prop) (ls : Array Slot), Rl (zθ Z) μ H → va_S (tA (zθ Z)) (zs Z).heap H locs → lvh (zθ Z) ls M.2.2.1 lv → zW Z H locs c n Q (F0 (zm Z) pc' ls (st'.map (re (zθ Z)))) → zW Z H locs c n Q (F0 (zm Z) pc ls (st.map (re (zθ Z))))) : GG Z M Ψ pc lv st μ (gd b X) := by
  cases hb : b with
  | false => intro r μ' hX; simp [gd] at hX
  | true => exact g_pure k (f hb)
/-- a step that stores into the locals -/
theorem g_sto {pc' : Nat} {st' : List Value} {lv' : List (Option Value)} (k : GG Z M Ψ pc' lv' st' μ X)
    (f : ∀ (C : Cx Z M) (H : Heap) (locs : List Loc) (c n : Nat) (Q : State → Prop) (ls : Array Slot), lvh (zθ Z) ls M.2.2.1 lv → (∀ ls' : Array Slot, lvh (zθ Z) ls' M.2.2.1 lv' → zW Z H locs c n Q (F0 (zm Z) pc' ls' (st'.map (re (zθ Z))))) → zW Z H locs c n Q (F0 (zm Z) pc ls (st.map (re (zθ Z))))) : GG Z M Ψ pc lv st μ X := by
  intro r μ' hX
  obtain ⟨h1, h2, h3⟩ := k r μ' hX
  exact ⟨h1, h2, fun C O H locs ls hR hS hl => f C H locs _ _ _ ls hl (fun ls' hl' => h3 C O H locs ls' hR hS hl')⟩
theorem g_if {c : Prop} [Decidable c] {pt pf : Nat} {st' : List Value} (kt : GG Z M Ψ pt lv st' μ X) (kf : GG Z M Ψ pf lv st' μ Y)
    (f : ∀ (C : Cx Z M) (H : Heap) (locs : List Loc) (k n : Nat) (Q : State → Prop) (ls : Array Slot), (c → zW Z H locs k n Q (F0 (zm Z) pt ls (st'.map (re (zθ Z))))) → (¬ c → zW Z H locs k n Q (F0 (zm Z) pf ls (st'.map (re (zθ Z))))) → zW Z H locs k n Q (F0 (zm Z) pc ls (st.map (re (zθ Z))))) : GG Z M Ψ pc lv st μ (if c then X else Y) := by
  intro r μ' hX
  by_cases hc : c
  · rw [if_pos hc] at hX
    obtain ⟨h1, h2, h3⟩ := kt r μ' hX
    exact ⟨h1, h2, fun C O H locs ls hR hS hl => f C H locs _ _ _ ls (fun _ => h3 C O H locs ls hR hS hl) (fun q => absurd hc q)⟩
  · rw [if_neg hc] at hX
    obtain ⟨h1, h2, h3⟩ := kf r μ' hX
    exact ⟨h1, h2, fun C O H locs ls hR hS hl => f C H locs _ _ _ ls (fun q => absurd q hc) (fun _ => h3 C O H locs ls hR hS hl)⟩
theorem g_msk (bs : List Bool) (k : GG Z M Ψ pc (msk bs lv) st μ X) : GG Z M Ψ pc lv st μ X := by
  intro r μ' hX
  obtain ⟨h1, h2, h3⟩ := k r μ' hX
  exact ⟨h1, h2, fun C O H locs ls hR hS hl => h3 C O H locs ls hR hS (lvh_msk hl)⟩
theorem g_no : GG Z M Ψ pc lv st μ none := fun _ _ h => by cases h
theorem g_gd {b : Bool} (k : b = true → GG Z M Ψ pc lv st μ X) : GG Z M Ψ pc lv st μ (gd b X) := by
  cases hb : b with
  | false => intro r μ' hX; simp [gd] at hX
  | true => exact k hb
theorem g_lt {β : Type} {a : β} {f : β → Option (α × Mm)} (k : GG Z M Ψ pc lv st μ (f a)) : GG Z M Ψ pc lv st μ (lt9 a f) := k
/-! constants -/
theorem g_iconst {n : Int} {v : Int32} (d : decode M.1 pc = .ok (.iconst n, 1)) (hv : Int32.ofInt n = v) (k : GG Z M Ψ (pc + 1) lv (.int v :: st) μ X) : GG Z M Ψ pc lv st μ X :=
  g_pure k (fun C H locs c n Q ls _ _ _ w => lv_iconst C.1 C.2.1 d hv w)
theorem g_bipush {n : Int} {v : Int32} (d : decode M.1 pc = .ok (.bipush n, 2)) (hv : (Int8.ofInt n).toInt32 = v) (k : GG Z M Ψ (pc + 2) lv (.int v :: st) μ X) : GG Z M Ψ pc lv st μ X :=
  g_pure k (fun C H locs c n Q ls _ _ _ w => lv_bipush C.1 C.2.1 d hv w)
theorem g_sipush {n : Int} {v : Int32} (d : decode M.1 pc = .ok (.sipush n, 3)) (hv : (Int16.ofInt n).toInt32 = v) (k : GG Z M Ψ (pc + 3) lv (.int v :: st) μ X) : GG Z M Ψ pc lv st μ X :=
  g_pure k (fun C H locs c n Q ls _ _ _ w => lv_sipush C.1 C.2.1 d hv w)
theorem g_lconst {n : Fin 2} {v : Int64} (d : decode M.1 pc = .ok (.lconst n, 1)) (hv : Int64.ofNat (n : Nat) = v) (k : GG Z M Ψ (pc + 1) lv (.long v :: st) μ X) : GG Z M Ψ pc lv st μ X :=
  g_pure k (fun C H locs c n Q ls _ _ _ w => lv_lconst C.1 C.2.1 d hv w)
theorem g_null (d : decode M.1 pc = .ok (.aconst_null, 1)) (k : GG Z M Ψ (pc + 1) lv (.null :: st) μ X) : GG Z M Ψ pc lv st μ X :=
  g_pure k (fun C H locs c n Q ls _ _ _ w => lv_null C.1 C.2.1 d w)
theorem g_ldc {index : Nat} {v : Int32} (d : decode M.1 pc = .ok (.ldc index, 2)) (hw : Cond.constant M.2.1 index v ∈ TB) (k : GG Z M Ψ (pc + 2) lv (.int v :: st) μ X) : GG Z M Ψ pc lv st μ X :=
  g_pure k (fun C H locs c n Q ls _ _ _ w => lv_ldc C.1 C.2.1 C.2.2.2.1 (C.2.2.2.2.1 _ hw) d w)
theorem g_ldcw {index : Nat} {v : Int32} (d : decode M.1 pc = .ok (.ldc_w index, 3)) (hw : Cond.constant M.2.1 index v ∈ TB) (k : GG Z M Ψ (pc + 3) lv (.int v :: st) μ X) : GG Z M Ψ pc lv st μ X :=
  g_pure k (fun C H locs c n Q ls _ _ _ w => lv_ldcw C.1 C.2.1 C.2.2.2.1 (C.2.2.2.2.1 _ hw) d w)
theorem g_ldc2 {index : Nat} {v : Int64} (d : decode M.1 pc = .ok (.ldc2_w index, 3)) (hw : Cond.constantLong M.2.1 index v ∈ TB) (k : GG Z M Ψ (pc + 3) lv (.long v :: st) μ X) : GG Z M Ψ pc lv st μ X :=
  g_pure k (fun C H locs c n Q ls _ _ _ w => lv_ldc2 C.1 C.2.1 C.2.2.2.1 (C.2.2.2.2.1 _ hw) d w)
/-! locals -/
theorem g_iload_n {j : Fin 4} {i : Nat} {x : Int32} (d : decode M.1 pc = .ok (.iload_n j, 1)) (hi : (j : Nat) = i) (hv : lv[i]? = some (some (.int x))) (k : GG Z M Ψ (pc + 1) lv (.int x :: st) μ X) : GG Z M Ψ pc lv st μ X :=
  g_pure k (fun C H locs c n Q ls _ _ hl w => lv_iload_n C.1 C.2.1 d hi (hl.2.2 _ _ hv) w)
theorem g_iload {i : Nat} {x : Int32} (d : decode M.1 pc = .ok (.iload i, 2)) (hv : lv[i]? = some (some (.int x))) (k : GG Z M Ψ (pc + 2) lv (.int x :: st) μ X) : GG Z M Ψ pc lv st μ X :=
  g_pure k (fun C H locs c n Q ls _ _ hl w => lv_iload C.1 C.2.1 d (hl.2.2 _ _ hv) w)
theorem g_lload_n {j : Fin 4} {i : Nat} {x : Int64} (d : decode M.1 pc = .ok (.lload_n j, 1)) (hi : (j : Nat) = i) (hv : lv[i]? = some (some (.long x))) (k : GG Z M Ψ (pc + 1) lv (.long x :: st) μ X) : GG Z M Ψ pc lv st μ X :=
  g_pure k (fun C H locs c n Q ls _ _ hl w => lv_lload_n C.1 C.2.1 d hi (hl.2.2 _ _ hv) w)
theorem g_lload {i : Nat} {x : Int64} (d : decode M.1 pc = .ok (.lload i, 2)) (hv : lv[i]? = some (some (.long x))) (k : GG Z M Ψ (pc + 2) lv (.long x :: st) μ X) : GG Z M Ψ pc lv st μ X :=
  g_pure k (fun C H locs c n Q ls _ _ hl w => lv_lload C.1 C.2.1 d (hl.2.2 _ _ hv) w)
theorem g_aload_n {j : Fin 4} {i : Nat} {x : Nat} (d : decode M.1 pc = .ok (.aload_n j, 1)) (hi : (j : Nat) = i) (hv : lv[i]? = some (some (.ref x))) (k : GG Z M Ψ (pc + 1) lv (.ref x :: st) μ X) : GG Z M Ψ pc lv st μ X :=
  g_pure k (fun C H locs c n Q ls _ _ hl w => lv_aload_n C.1 C.2.1 d hi (hl.2.2 _ _ hv) w)
theorem g_aload {i : Nat} {x : Nat} (d : decode M.1 pc = .ok (.aload i, 2)) (hv : lv[i]? = some (some (.ref x))) (k : GG Z M Ψ (pc + 2) lv (.ref x :: st) μ X) : GG Z M Ψ pc lv st μ X :=
  g_pure k (fun C H locs c n Q ls _ _ hl w => lv_aload C.1 C.2.1 d (hl.2.2 _ _ hv) w)
theorem g_istore_n {j : Fin 4} {i : Nat} {x : Int32} {f : Int32 → Option (α × Mm)} (d : decode M.1 pc = .ok (.istore_n j, 1)) (hi : (j : Nat) = i) (hn : i < M.2.2.1) (k : ∀ v : Int32, GG Z M Ψ (pc + 1) (st1 lv i (.int v)) st μ (f v)) : GG Z M Ψ pc lv (.int x :: st) μ (lt9 x f) :=
  g_sto (k x) (fun C H locs c n Q ls hl w => lv_istore_n C.1 C.2.1 d hi (lvh_al hl) hn rfl (fun ls' h => w ls' (st1_ok (v := .int x) h)))
theorem g_istore {i : Nat} {x : Int32} {f : Int32 → Option (α × Mm)} (d : decode M.1 pc = .ok (.istore i, 2)) (hn : i < M.2.2.1) (k : ∀ v : Int32, GG Z M Ψ (pc + 2) (st1 lv i (.int v)) st μ (f v)) : GG Z M Ψ pc lv (.int x :: st) μ (lt9 x f) :=
  g_sto (k x) (fun C H locs c n Q ls hl w => lv_istore C.1 C.2.1 d (lvh_al hl) hn rfl (fun ls' h => w ls' (st1_ok (v := .int x) h)))
theorem g_lstore_n {j : Fin 4} {i : Nat} {x : Int64} {f : Int64 → Option (α × Mm)} (d : decode M.1 pc = .ok (.lstore_n j, 1)) (hi : (j : Nat) = i) (hn : i + 1 < M.2.2.1) (k : ∀ v : Int64, GG Z M Ψ (pc + 1) (st2 lv i (.long v)) st μ (f v)) : GG Z M Ψ pc lv (.long x :: st) μ (lt9 x f) :=
  g_sto (k x) (fun C H locs c n Q ls hl w => lv_lstore_n C.1 C.2.1 d hi (lvh_al hl) hn rfl (fun ls' h => w ls' (st2_ok (v := .long x) h)))
theorem g_lstore {i : Nat} {x : Int64} {f : Int64 → Option (α × Mm)} (d : decode M.1 pc = .ok (.lstore i, 2)) (hn : i + 1 < M.2.2.1) (k : ∀ v : Int64, GG Z M Ψ (pc + 2) (st2 lv i (.long v)) st μ (f v)) : GG Z M Ψ pc lv (.long x :: st) μ (lt9 x f) :=
  g_sto (k x) (fun C H locs c n Q ls hl w => lv_lstore C.1 C.2.1 d (lvh_al hl) hn rfl (fun ls' h => w ls' (st2_ok (v := .long x) h)))
theorem g_astore_n {j : Fin 4} {i : Nat} {x : Nat} (d : decode M.1 pc = .ok (.astore_n j, 1)) (hi : (j : Nat) = i) (hn : i < M.2.2.1) (k : GG Z M Ψ (pc + 1) (st1 lv i (.ref x)) st μ X) : GG Z M Ψ pc lv (.ref x :: st) μ X :=
  g_sto k (fun C H locs c n Q ls hl w => lv_astore_n C.1 C.2.1 d hi (lvh_al hl) hn rfl (fun ls' h => w ls' (st1_ok (v := .ref x) h)))
theorem g_astore {i : Nat} {x : Nat} (d : decode M.1 pc = .ok (.astore i, 2)) (hn : i < M.2.2.1) (k : GG Z M Ψ (pc + 2) (st1 lv i (.ref x)) st μ X) : GG Z M Ψ pc lv (.ref x :: st) μ X :=
  g_sto k (fun C H locs c n Q ls hl w => lv_astore C.1 C.2.1 d (lvh_al hl) hn rfl (fun ls' h => w ls' (st1_ok (v := .ref x) h)))
theorem g_iinc {i : Nat} {n : Int} {x n' : Int32} {f : Int32 → Option (α × Mm)} (d : decode M.1 pc = .ok (.iinc i n, 3)) (hv : lv[i]? = some (some (.int x))) (he : Int32.ofInt n = n') (hn : i < M.2.2.1) (k : ∀ v : Int32, GG Z M Ψ (pc + 3) (st1 lv i (.int v)) st μ (f v)) : GG Z M Ψ pc lv st μ (lt9 (x + n') f) :=
  g_sto (k (x + n')) (fun C H locs c n Q ls hl w => by
    have hm : (i, re (zθ Z) (.int x)) ∈ al (zθ Z) lv := al_mem hv
    obtain ⟨j, hj⟩ := List.getElem?_of_mem hm
    exact lv_iinc C.1 C.2.1 d (lvh_al hl) hj (by rw [he]) hn rfl (fun ls' h => w ls' (st1_ok (v := .int (x + n')) h)))
/-! arithmetic -/
theorem g_iadd {x y : Int32} (d : decode M.1 pc = .ok (.iadd, 1)) (k : GG Z M Ψ (pc + 1) lv (.int (x + y) :: st) μ X) : GG Z M Ψ pc lv (.int y :: .int x :: st) μ X := g_pure k (fun C H locs c n Q ls _ _ _ w => lv_iadd C.1 C.2.1 d w)
theorem g_isub {x y : Int32} (d : decode M.1 pc = .ok (.isub, 1)) (k : GG Z M Ψ (pc + 1) lv (.int (x - y) :: st) μ X) : GG Z M Ψ pc lv (.int y :: .int x :: st) μ X := g_pure k (fun C H locs c n Q ls _ _ _ w => lv_isub C.1 C.2.1 d w)
theorem g_imul {x y : Int32} (d : decode M.1 pc = .ok (.imul, 1)) (k : GG Z M Ψ (pc + 1) lv (.int (x * y) :: st) μ X) : GG Z M Ψ pc lv (.int y :: .int x :: st) μ X := g_pure k (fun C H locs c n Q ls _ _ _ w => lv_imul C.1 C.2.1 d w)
theorem g_iand {x y : Int32} (d : decode M.1 pc = .ok (.iand, 1)) (k : GG Z M Ψ (pc + 1) lv (.int (x &&& y) :: st) μ X) : GG Z M Ψ pc lv (.int y :: .int x :: st) μ X := g_pure k (fun C H locs c n Q ls _ _ _ w => lv_iand C.1 C.2.1 d w)
theorem g_ior {x y : Int32} (d : decode M.1 pc = .ok (.ior, 1)) (k : GG Z M Ψ (pc + 1) lv (.int (x ||| y) :: st) μ X) : GG Z M Ψ pc lv (.int y :: .int x :: st) μ X := g_pure k (fun C H locs c n Q ls _ _ _ w => lv_ior C.1 C.2.1 d w)
theorem g_ixor {x y : Int32} (d : decode M.1 pc = .ok (.ixor, 1)) (k : GG Z M Ψ (pc + 1) lv (.int (x ^^^ y) :: st) μ X) : GG Z M Ψ pc lv (.int y :: .int x :: st) μ X := g_pure k (fun C H locs c n Q ls _ _ _ w => lv_ixor C.1 C.2.1 d w)
theorem g_ishl {x y : Int32} (d : decode M.1 pc = .ok (.ishl, 1)) (k : GG Z M Ψ (pc + 1) lv (.int (x <<< (y &&& 31)) :: st) μ X) : GG Z M Ψ pc lv (.int y :: .int x :: st) μ X := g_pure k (fun C H locs c n Q ls _ _ _ w => lv_ishl C.1 C.2.1 d w)
theorem g_ishr {x y : Int32} (d : decode M.1 pc = .ok (.ishr, 1)) (k : GG Z M Ψ (pc + 1) lv (.int (x >>> (y &&& 31)) :: st) μ X) : GG Z M Ψ pc lv (.int y :: .int x :: st) μ X := g_pure k (fun C H locs c n Q ls _ _ _ w => lv_ishr C.1 C.2.1 d w)
theorem g_iushr {x y : Int32} (d : decode M.1 pc = .ok (.iushr, 1)) (k : GG Z M Ψ (pc + 1) lv (.int ((x.toUInt32 >>> (y.toUInt32 &&& Int32.toUInt32 31)).toInt32) :: st) μ X) : GG Z M Ψ pc lv (.int y :: .int x :: st) μ X := g_pure k (fun C H locs c n Q ls _ _ _ w => lv_iushr C.1 C.2.1 d rfl w)
theorem g_idiv {x y : Int32} (d : decode M.1 pc = .ok (.idiv, 1)) (k : GG Z M Ψ (pc + 1) lv (.int (x / y) :: st) μ X) : GG Z M Ψ pc lv (.int y :: .int x :: st) μ (gd (decide (¬ y = 0)) X) := g_gp k (fun hb C H locs c n Q ls _ _ _ w => lv_idiv C.1 C.2.1 d (of_decide_eq_true hb) w)
theorem g_irem {x y : Int32} (d : decode M.1 pc = .ok (.irem, 1)) (k : GG Z M Ψ (pc + 1) lv (.int (x - x / y * y) :: st) μ X) : GG Z M Ψ pc lv (.int y :: .int x :: st) μ (gd (decide (¬ y = 0)) X) := g_gp k (fun hb C H locs c n Q ls _ _ _ w => lv_irem C.1 C.2.1 d (of_decide_eq_true hb) w)
theorem g_ineg {x : Int32} (d : decode M.1 pc = .ok (.ineg, 1)) (k : GG Z M Ψ (pc + 1) lv (.int (-x) :: st) μ X) : GG Z M Ψ pc lv (.int x :: st) μ X := g_pure k (fun C H locs c n Q ls _ _ _ w => lv_ineg C.1 C.2.1 d w)
theorem g_i2b {x : Int32} (d : decode M.1 pc = .ok (.i2b, 1)) (k : GG Z M Ψ (pc + 1) lv (.int x.toInt8.toInt32 :: st) μ X) : GG Z M Ψ pc lv (.int x :: st) μ X := g_pure k (fun C H locs c n Q ls _ _ _ w => lv_i2b C.1 C.2.1 d rfl w)
theorem g_i2c {x : Int32} (d : decode M.1 pc = .ok (.i2c, 1)) (k : GG Z M Ψ (pc + 1) lv (.int (x.toUInt32 % 65536).toInt32 :: st) μ X) : GG Z M Ψ pc lv (.int x :: st) μ X := g_pure k (fun C H locs c n Q ls _ _ _ w => lv_i2c C.1 C.2.1 d rfl w)
theorem g_i2l {x : Int32} (d : decode M.1 pc = .ok (.i2l, 1)) (k : GG Z M Ψ (pc + 1) lv (.long x.toInt64 :: st) μ X) : GG Z M Ψ pc lv (.int x :: st) μ X := g_pure k (fun C H locs c n Q ls _ _ _ w => lv_i2l C.1 C.2.1 d rfl w)
theorem g_l2i {x : Int64} (d : decode M.1 pc = .ok (.l2i, 1)) (k : GG Z M Ψ (pc + 1) lv (.int x.toInt32 :: st) μ X) : GG Z M Ψ pc lv (.long x :: st) μ X := g_pure k (fun C H locs c n Q ls _ _ _ w => lv_l2i C.1 C.2.1 d rfl w)
theorem g_ladd {x y : Int64} (d : decode M.1 pc = .ok (.ladd, 1)) (k : GG Z M Ψ (pc + 1) lv (.long (x + y) :: st) μ X) : GG Z M Ψ pc lv (.long y :: .long x :: st) μ X := g_pure k (fun C H locs c n Q ls _ _ _ w => lv_ladd C.1 C.2.1 d w)
theorem g_lmul {x y : Int64} (d : decode M.1 pc = .ok (.lmul, 1)) (k : GG Z M Ψ (pc + 1) lv (.long (x * y) :: st) μ X) : GG Z M Ψ pc lv (.long y :: .long x :: st) μ X := g_pure k (fun C H locs c n Q ls _ _ _ w => lv_lmul C.1 C.2.1 d w)
theorem g_land {x y : Int64} (d : decode M.1 pc = .ok (.land, 1)) (k : GG Z M Ψ (pc + 1) lv (.long (x &&& y) :: st) μ X) : GG Z M Ψ pc lv (.long y :: .long x :: st) μ X := g_pure k (fun C H locs c n Q ls _ _ _ w => lv_land C.1 C.2.1 d w)
theorem g_lor {x y : Int64} (d : decode M.1 pc = .ok (.lor, 1)) (k : GG Z M Ψ (pc + 1) lv (.long (x ||| y) :: st) μ X) : GG Z M Ψ pc lv (.long y :: .long x :: st) μ X := g_pure k (fun C H locs c n Q ls _ _ _ w => lv_lor C.1 C.2.1 d w)
theorem g_lshl {x : Int64} {y : Int32} (d : decode M.1 pc = .ok (.lshl, 1)) (k : GG Z M Ψ (pc + 1) lv (.long (x <<< (y.toInt64 &&& 63)) :: st) μ X) : GG Z M Ψ pc lv (.int y :: .long x :: st) μ X := g_pure k (fun C H locs c n Q ls _ _ _ w => lv_lshl C.1 C.2.1 d rfl w)
theorem g_lshr {x : Int64} {y : Int32} (d : decode M.1 pc = .ok (.lshr, 1)) (k : GG Z M Ψ (pc + 1) lv (.long (x >>> (y.toInt64 &&& 63)) :: st) μ X) : GG Z M Ψ pc lv (.int y :: .long x :: st) μ X := g_pure k (fun C H locs c n Q ls _ _ _ w => lv_lshr C.1 C.2.1 d rfl w)
theorem g_lcmp {x y : Int64} (d : decode M.1 pc = .ok (.lcmp, 1)) (k : GG Z M Ψ (pc + 1) lv (.int (lg_cmp x y) :: st) μ X) : GG Z M Ψ pc lv (.long y :: .long x :: st) μ X := g_pure k (fun C H locs c n Q ls _ _ _ w => W.lcmp C.1 C.2.1 d w)
/-! stack -/
theorem g_dup {v : Value} (d : decode M.1 pc = .ok (.dup, 1)) (hv : v.category = 1) (k : GG Z M Ψ (pc + 1) lv (v :: v :: st) μ X) : GG Z M Ψ pc lv (v :: st) μ X := g_pure k (fun C H locs c n Q ls _ _ _ w => lv_dup C.1 C.2.1 d ((re_cat _ v).trans hv) w)
theorem g_dup2 {v u : Value} (d : decode M.1 pc = .ok (.dup2, 1)) (hv : v.category = 1) (hu : u.category = 1) (k : GG Z M Ψ (pc + 1) lv (v :: u :: v :: u :: st) μ X) : GG Z M Ψ pc lv (v :: u :: st) μ X := g_pure k (fun C H locs c n Q ls _ _ _ w => lv_dup2_11 C.1 C.2.1 d ((re_cat _ v).trans hv) ((re_cat _ u).trans hu) w)
theorem g_pop {v : Value} (d : decode M.1 pc = .ok (.pop, 1)) (hv : v.category = 1) (k : GG Z M Ψ (pc + 1) lv st μ X) : GG Z M Ψ pc lv (v :: st) μ X := g_pure k (fun C H locs c n Q ls _ _ _ w => lv_pop C.1 C.2.1 d ((re_cat _ v).trans hv) w)
/-! branches -/
theorem g_goto {off : Int} {tgt : Nat} (d : decode M.1 pc = .ok (.goto off, 3)) (ht : (pc : Int) + off = (tgt : Int)) (k : GG Z M Ψ tgt lv st μ X) : GG Z M Ψ pc lv st μ X := g_pure k (fun C H locs c n Q ls _ _ _ w => lv_goto C.1 C.2.1 d ht w)
theorem g_ifeq {x : Int32} {off : Int} {tgt : Nat} (d : decode M.1 pc = .ok (.ifCond .eq off, 3)) (ht : (pc : Int) + off = (tgt : Int)) (kt : GG Z M Ψ tgt lv st μ X) (kf : GG Z M Ψ (pc + 3) lv st μ Y) : GG Z M Ψ pc lv (.int x :: st) μ (if x = 0 then X else Y) := g_if kt kf (fun C H locs c n Q ls a b => lv_if_eq C.1 C.2.1 d ht a b)
theorem g_ifne {x : Int32} {off : Int} {tgt : Nat} (d : decode M.1 pc = .ok (.ifCond .ne off, 3)) (ht : (pc : Int) + off = (tgt : Int)) (kt : GG Z M Ψ tgt lv st μ X) (kf : GG Z M Ψ (pc + 3) lv st μ Y) : GG Z M Ψ pc lv (.int x :: st) μ (if x = 0 then Y else X) := g_if kf kt (fun C H locs c n Q ls a b => lv_if_ne C.1 C.2.1 d ht (fun h => b h) (fun h => a h))
theorem g_iflt {x : Int32} {off : Int} {tgt : Nat} (d : decode M.1 pc = .ok (.ifCond .lt off, 3)) (ht : (pc : Int) + off = (tgt : Int)) (kt : GG Z M Ψ tgt lv st μ X) (kf : GG Z M Ψ (pc + 3) lv st μ Y) : GG Z M Ψ pc lv (.int x :: st) μ (if x < 0 then X else Y) := g_if kt kf (fun C H locs c n Q ls a b => lv_if_lt C.1 C.2.1 d ht a b)
theorem g_ifge {x : Int32} {off : Int} {tgt : Nat} (d : decode M.1 pc = .ok (.ifCond .ge off, 3)) (ht : (pc : Int) + off = (tgt : Int)) (kt : GG Z M Ψ tgt lv st μ X) (kf : GG Z M Ψ (pc + 3) lv st μ Y) : GG Z M Ψ pc lv (.int x :: st) μ (if 0 ≤ x then X else Y) := g_if kt kf (fun C H locs c n Q ls a b => lv_if_ge C.1 C.2.1 d ht a b)
theorem g_ifgt {x : Int32} {off : Int} {tgt : Nat} (d : decode M.1 pc = .ok (.ifCond .gt off, 3)) (ht : (pc : Int) + off = (tgt : Int)) (kt : GG Z M Ψ tgt lv st μ X) (kf : GG Z M Ψ (pc + 3) lv st μ Y) : GG Z M Ψ pc lv (.int x :: st) μ (if 0 < x then X else Y) := g_if kt kf (fun C H locs c n Q ls a b => lv_if_gt C.1 C.2.1 d ht a b)
theorem g_ifle {x : Int32} {off : Int} {tgt : Nat} (d : decode M.1 pc = .ok (.ifCond .le off, 3)) (ht : (pc : Int) + off = (tgt : Int)) (kt : GG Z M Ψ tgt lv st μ X) (kf : GG Z M Ψ (pc + 3) lv st μ Y) : GG Z M Ψ pc lv (.int x :: st) μ (if x ≤ 0 then X else Y) := g_if kt kf (fun C H locs c n Q ls a b => lv_if_le C.1 C.2.1 d ht a b)
theorem g_icmpeq {x y : Int32} {off : Int} {tgt : Nat} (d : decode M.1 pc = .ok (.if_icmp .eq off, 3)) (ht : (pc : Int) + off = (tgt : Int)) (kt : GG Z M Ψ tgt lv st μ X) (kf : GG Z M Ψ (pc + 3) lv st μ Y) : GG Z M Ψ pc lv (.int y :: .int x :: st) μ (if x = y then X else Y) := g_if kt kf (fun C H locs c n Q ls a b => lv_icmp_eq C.1 C.2.1 d ht a b)
theorem g_icmplt {x y : Int32} {off : Int} {tgt : Nat} (d : decode M.1 pc = .ok (.if_icmp .lt off, 3)) (ht : (pc : Int) + off = (tgt : Int)) (kt : GG Z M Ψ tgt lv st μ X) (kf : GG Z M Ψ (pc + 3) lv st μ Y) : GG Z M Ψ pc lv (.int y :: .int x :: st) μ (if x < y then X else Y) := g_if kt kf (fun C H locs c n Q ls a b => lv_icmp_lt C.1 C.2.1 d ht a b)
theorem g_icmpge {x y : Int32} {off : Int} {tgt : Nat} (d : decode M.1 pc = .ok (.if_icmp .ge off, 3)) (ht : (pc : Int) + off = (tgt : Int)) (kt : GG Z M Ψ tgt lv st μ X) (kf : GG Z M Ψ (pc + 3) lv st μ Y) : GG Z M Ψ pc lv (.int y :: .int x :: st) μ (if y ≤ x then X else Y) := g_if kt kf (fun C H locs c n Q ls a b => lv_icmp_ge C.1 C.2.1 d ht a b)
theorem g_icmpgt {x y : Int32} {off : Int} {tgt : Nat} (d : decode M.1 pc = .ok (.if_icmp .gt off, 3)) (ht : (pc : Int) + off = (tgt : Int)) (kt : GG Z M Ψ tgt lv st μ X) (kf : GG Z M Ψ (pc + 3) lv st μ Y) : GG Z M Ψ pc lv (.int y :: .int x :: st) μ (if y < x then X else Y) := g_if kt kf (fun C H locs c n Q ls a b => lv_icmp_gt C.1 C.2.1 d ht a b)
theorem g_icmple {x y : Int32} {off : Int} {tgt : Nat} (d : decode M.1 pc = .ok (.if_icmp .le off, 3)) (ht : (pc : Int) + off = (tgt : Int)) (kt : GG Z M Ψ tgt lv st μ X) (kf : GG Z M Ψ (pc + 3) lv st μ Y) : GG Z M Ψ pc lv (.int y :: .int x :: st) μ (if x ≤ y then X else Y) := g_if kt kf (fun C H locs c n Q ls a b => lv_icmp_le C.1 C.2.1 d ht a b)
theorem g_icmpne {x y : Int32} {off : Int} {tgt : Nat} (d : decode M.1 pc = .ok (.if_icmp .ne off, 3)) (ht : (pc : Int) + off = (tgt : Int)) (kt : GG Z M Ψ tgt lv st μ X) (kf : GG Z M Ψ (pc + 3) lv st μ Y) : GG Z M Ψ pc lv (.int y :: .int x :: st) μ (if x = y then Y else X) := g_if kf kt (fun C H locs c n Q ls a b => lv_icmp_ne C.1 C.2.1 d ht (fun h => b h) (fun h => a h))
theorem g_ifnull {x : Nat} {off : Int} (d : decode M.1 pc = .ok (.ifnull off, 3)) (k : GG Z M Ψ (pc + 3) lv st μ X) : GG Z M Ψ pc lv (.ref x :: st) μ X := g_pure k (fun C H locs c n Q ls _ _ _ w => lv_ifnull C.1 C.2.1 d w)
theorem g_ifnonnull {x : Nat} {off : Int} {tgt : Nat} (d : decode M.1 pc = .ok (.ifnonnull off, 3)) (ht : (pc : Int) + off = (tgt : Int)) (k : GG Z M Ψ tgt lv st μ X) : GG Z M Ψ pc lv (.ref x :: st) μ X := g_pure k (fun C H locs c n Q ls _ _ _ w => lv_ifnonnull C.1 C.2.1 d ht w)
theorem g_ifnullN {off : Int} {tgt : Nat} (d : decode M.1 pc = .ok (.ifnull off, 3)) (ht : (pc : Int) + off = (tgt : Int)) (k : GG Z M Ψ tgt lv st μ X) : GG Z M Ψ pc lv (.null :: st) μ X := g_pure k (fun C H locs c n Q ls _ _ _ w => lv_ifnullN C.1 C.2.1 d ht w)
theorem g_ifnonnullN {off : Int} (d : decode M.1 pc = .ok (.ifnonnull off, 3)) (k : GG Z M Ψ (pc + 3) lv st μ X) : GG Z M Ψ pc lv (.null :: st) μ X := g_pure k (fun C H locs c n Q ls _ _ _ w => lv_ifnonnullN C.1 C.2.1 d w)
theorem g_aloadN {i : Nat} (d : decode M.1 pc = .ok (.aload i, 2)) (hv : lv[i]? = some (some .null)) (k : GG Z M Ψ (pc + 2) lv (.null :: st) μ X) : GG Z M Ψ pc lv st μ X :=
  g_pure k (fun C H locs c n Q ls _ _ hl w => lv_aloadN C.1 C.2.1 d (hl.2.2 _ _ hv) w)
theorem g_aload_nN {j : Fin 4} {i : Nat} (d : decode M.1 pc = .ok (.aload_n j, 1)) (hi : (j : Nat) = i) (hv : lv[i]? = some (some .null)) (k : GG Z M Ψ (pc + 1) lv (.null :: st) μ X) : GG Z M Ψ pc lv st μ X :=
  g_pure k (fun C H locs c n Q ls _ _ hl w => lv_aload_nN C.1 C.2.1 d hi (hl.2.2 _ _ hv) w)
theorem g_astore_nN {j : Fin 4} {i : Nat} (d : decode M.1 pc = .ok (.astore_n j, 1)) (hi : (j : Nat) = i) (hn : i < M.2.2.1) (k : GG Z M Ψ (pc + 1) (st1 lv i .null) st μ X) : GG Z M Ψ pc lv (.null :: st) μ X :=
  g_sto k (fun C H locs c n Q ls hl w => lv_astore_nN C.1 C.2.1 d hi (lvh_al hl) hn rfl (fun ls' h => w ls' (st1_ok (v := .null) h)))
theorem g_astoreN {i : Nat} (d : decode M.1 pc = .ok (.astore i, 2)) (hn : i < M.2.2.1) (k : GG Z M Ψ (pc + 2) (st1 lv i .null) st μ X) : GG Z M Ψ pc lv (.null :: st) μ X :=
  g_sto k (fun C H locs c n Q ls hl w => lv_astoreN C.1 C.2.1 d (lvh_al hl) hn rfl (fun ls' h => w ls' (st1_ok (v := .null) h)))
end G1
