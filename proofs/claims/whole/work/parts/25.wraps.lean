abbrev M_L_group : MI := (cL_group, RL, 4, 12, 184, (some .int), "group")
def hh_L_group : List (Nat × Nat × Nat × Nat) := [(0, 9, 12, 13)]
def hx_L_group (k : Nat) : Option Int32 := if k = 1 then some 1 else none
def F_L_group (a0 : Nat) (a1 : Int32) (a2 : Nat) (m : Mm) : Option (Int32 × Mm) :=
 gd (okO m a0 11) (bx (F_X11_group a0 a1 m) (fun r m1 => gd (okA m1 101 a2 0) (lt9 (wL m1 a2 (ix 0) r.toInt64) fun m2 => some (0, m2))) (fun k m => hd9 (hx_L_group k) m))
abbrev M_L_law : MI := (cL_law, RL, 4, 49, 1277, (some .int), "law")
def hh_L_law : List (Nat × Nat × Nat × Nat) := [(0, 9, 12, 13)]
def hx_L_law (k : Nat) : Option Int32 := if k = 1 then some 1 else none
def F_L_law (a0 : Nat) (a1 : Int32) (a2 : Nat) (m : Mm) : Option (Int32 × Mm) :=
 gd (okO m a0 11) (bx (F_X11_law a0 a1 m) (fun r m1 => gd (okA m1 101 a2 0) (lt9 (wL m1 a2 (ix 0) r.toInt64) fun m2 => some (0, m2))) (fun k m => hd9 (hx_L_law k) m))
abbrev M_L_work : MI := (cL_work, RL, 4, 49, 1311, (some .int), "work")
def hh_L_work : List (Nat × Nat × Nat × Nat) := [(0, 9, 12, 13)]
def hx_L_work (k : Nat) : Option Int32 := if k = 1 then some 1 else none
def F_L_work (a0 : Nat) (a1 : Int32) (a2 : Nat) (m : Mm) : Option (Int32 × Mm) :=
 gd (okO m a0 11) (bx (F_X11_work a0 a1 m) (fun r m1 => gd (okA m1 101 a2 0) (lt9 (wL m1 a2 (ix 0) r.toInt64) fun m2 => some (0, m2))) (fun k m => hd9 (hx_L_work k) m))
abbrev M_L_book : MI := (cL_book, RL, 4, 12, 184, (some .int), "book")
def hh_L_book : List (Nat × Nat × Nat × Nat) := [(0, 9, 12, 13)]
def hx_L_book (k : Nat) : Option Int32 := if k = 1 then some 1 else none
def F_L_book (a0 : Nat) (a1 : Int32) (a2 : Nat) (m : Mm) : Option (Int32 × Mm) :=
 gd (okO m a0 11) (bx (F_X11_book a0 a1 m) (fun r m1 => gd (okA m1 101 a2 0) (lt9 (wL m1 a2 (ix 0) r.toInt64) fun m2 => some (0, m2))) (fun k m => hd9 (hx_L_book k) m))
abbrev M_L_told : MI := (cL_told, RL, 4, 11, 162, (some .int), "told")
def hh_L_told : List (Nat × Nat × Nat × Nat) := [(0, 9, 12, 13)]
def hx_L_told (k : Nat) : Option Int32 := if k = 1 then some 1 else none
def F_L_told (a0 : Nat) (a1 : Int32) (a2 : Nat) (m : Mm) : Option (Int32 × Mm) :=
 gd (okO m a0 11) (bx (F_X11_told a0 a1 m) (fun r m1 => gd (okA m1 101 a2 0) (lt9 (wL m1 a2 (ix 0) r.toInt64) fun m2 => some (0, m2))) (fun k m => hd9 (hx_L_told k) m))
abbrev M_L_member : MI := (cL_member, RL, 5, 11, 163, (some .int), "member")
def hh_L_member : List (Nat × Nat × Nat × Nat) := [(0, 10, 13, 31), (0, 10, 17, 13)]
def hx_L_member (k : Nat) : Option Int32 := if k = 0 then some 1 else if k = 1 then some 2 else none
def F_L_member (a0 : Nat) (a1 : Int32) (a2 : Int32) (a3 : Nat) (m : Mm) : Option (Int32 × Mm) :=
 gd (okO m a0 11) (bx (F_X11_member a0 a1 a2 m) (fun r m1 => gd (okA m1 101 a3 0) (lt9 (wL m1 a3 (ix 0) r.toInt64) fun m2 => some (0, m2))) (fun k m => hd9 (hx_L_member k) m))
abbrev M_L_tally : MI := (cL_tally, RL, 4, 11, 162, (some .int), "tally")
def hh_L_tally : List (Nat × Nat × Nat × Nat) := [(0, 8, 11, 31)]
def hx_L_tally (k : Nat) : Option Int32 := if k = 0 then some 1 else none
def F_L_tally (a0 : Nat) (a1 : Int32) (a2 : Nat) (m : Mm) : Option (Int32 × Mm) :=
 gd (okO m a0 11) (bx (F_X11_tally a0 a1 m) (fun r m1 => gd (okA m1 101 a2 0) (lt9 (wL m1 a2 (ix 0) r) fun m2 => some (0, m2))) (fun k m => hd9 (hx_L_tally k) m))
abbrev M_L_log : MI := (cL_log, RL, 5, 11, 163, (some .int), "log")
def hh_L_log : List (Nat × Nat × Nat × Nat) := [(0, 9, 12, 31), (0, 9, 16, 41), (0, 9, 20, 43)]
def hx_L_log (k : Nat) : Option Int32 := if k = 0 then some 1 else if k = 2 then some 2 else if k = 3 then some 3 else none
def F_L_log (a0 : Nat) (a1 : Int32) (a2 : Int32) (a3 : Nat) (m : Mm) : Option (Int32 × Mm) :=
 gd (okO m a0 11) (bx (F_X11_log a0 a1 a2 m) (fun r m1 => gd (okA m1 101 a3 0) (lt9 (wL m1 a3 (ix 0) r) fun m2 => some (0, m2))) (fun k m => hd9 (hx_L_log k) m))
abbrev M_L_message : MI := (cL_message, RL, 5, 11, 163, (some .int), "message")
def hh_L_message : List (Nat × Nat × Nat × Nat) := [(0, 10, 13, 13), (0, 10, 17, 41), (0, 10, 21, 43)]
def hx_L_message (k : Nat) : Option Int32 := if k = 1 then some 1 else if k = 2 then some 2 else if k = 3 then some 3 else none
def F_L_message (a0 : Nat) (a1 : Int32) (a2 : Int32) (a3 : Nat) (m : Mm) : Option (Int32 × Mm) :=
 gd (okO m a0 11) (bx (F_X11_message a0 a1 a2 m) (fun r m1 => gd (okA m1 101 a3 0) (lt9 (wL m1 a3 (ix 0) r.toInt64) fun m2 => some (0, m2))) (fun k m => hd9 (hx_L_message k) m))
abbrev M_L_knows : MI := (cL_knows, RL, 5, 11, 163, (some .int), "knows")
def hh_L_knows : List (Nat × Nat × Nat × Nat) := [(0, 10, 13, 31)]
def hx_L_knows (k : Nat) : Option Int32 := if k = 0 then some 1 else none
def F_L_knows (a0 : Nat) (a1 : Int32) (a2 : Int32) (a3 : Nat) (m : Mm) : Option (Int32 × Mm) :=
 gd (okO m a0 11) (bx (F_X11_knows a0 a1 a2 m) (fun r m1 => gd (okA m1 101 a3 0) (lt9 (wL m1 a3 (ix 0) r.toInt64) fun m2 => some (0, m2))) (fun k m => hd9 (hx_L_knows k) m))
abbrev M_L_stable : MI := (cL_stable, RL, 4, 11, 162, (some .int), "stable")
def hh_L_stable : List (Nat × Nat × Nat × Nat) := [(0, 9, 12, 31)]
def hx_L_stable (k : Nat) : Option Int32 := if k = 0 then some 1 else none
def F_L_stable (a0 : Nat) (a1 : Int32) (a2 : Nat) (m : Mm) : Option (Int32 × Mm) :=
 gd (okO m a0 11) (bx (F_X11_stable a0 a1 m) (fun r m1 => gd (okA m1 101 a2 0) (lt9 (wL m1 a2 (ix 0) r.toInt64) fun m2 => some (0, m2))) (fun k m => hd9 (hx_L_stable k) m))
abbrev M_L_would : MI := (cL_would, RL, 7, 11, 165, (some .int), "would")
def hh_L_would : List (Nat × Nat × Nat × Nat) := [(0, 14, 17, 13)]
def hx_L_would (k : Nat) : Option Int32 := if k = 1 then some 1 else none
def F_L_would (a0 : Nat) (a1 : Int32) (a2 : Int32) (a3 : Int32) (a4 : Int32) (a5 : Nat) (m : Mm) : Option (Int32 × Mm) :=
 gd (okO m a0 11) (bx (F_X11_would a0 a1 a2 a3 a4 m) (fun r m1 => gd (okA m1 101 a5 0) (lt9 (wL m1 a5 (ix 0) r.toInt64) fun m2 => some (0, m2))) (fun k m => hd9 (hx_L_would k) m))
abbrev M_L_missing : MI := (cL_missing, RL, 4, 11, 162, (some .int), "missing")
def hh_L_missing : List (Nat × Nat × Nat × Nat) := [(0, 9, 12, 31)]
def hx_L_missing (k : Nat) : Option Int32 := if k = 0 then some 1 else none
def F_L_missing (a0 : Nat) (a1 : Int32) (a2 : Nat) (m : Mm) : Option (Int32 × Mm) :=
 gd (okO m a0 11) (bx (F_X11_missing a0 a1 m) (fun r m1 => gd (okA m1 101 a2 0) (lt9 (wL m1 a2 (ix 0) r.toInt64) fun m2 => some (0, m2))) (fun k m => hd9 (hx_L_missing k) m))
abbrev M_L_next : MI := (cL_next, RL, 4, 11, 162, (some .int), "next")
def hh_L_next : List (Nat × Nat × Nat × Nat) := [(0, 9, 12, 31)]
def hx_L_next (k : Nat) : Option Int32 := if k = 0 then some 1 else none
def F_L_next (a0 : Nat) (a1 : Int32) (a2 : Nat) (m : Mm) : Option (Int32 × Mm) :=
 gd (okO m a0 11) (bx (F_X11_next a0 a1 m) (fun r m1 => gd (okA m1 101 a2 0) (lt9 (wL m1 a2 (ix 0) r.toInt64) fun m2 => some (0, m2))) (fun k m => hd9 (hx_L_next k) m))
abbrev M_L_held : MI := (cL_held, RL, 5, 11, 163, (some .int), "held")
def hh_L_held : List (Nat × Nat × Nat × Nat) := [(0, 10, 13, 31), (0, 10, 17, 13)]
def hx_L_held (k : Nat) : Option Int32 := if k = 0 then some 1 else if k = 1 then some 2 else none
def F_L_held (a0 : Nat) (a1 : Int32) (a2 : Int32) (a3 : Nat) (m : Mm) : Option (Int32 × Mm) :=
 gd (okO m a0 11) (bx (F_X11_held a0 a1 a2 m) (fun r m1 => gd (okA m1 101 a3 0) (lt9 (wL m1 a3 (ix 0) r.toInt64) fun m2 => some (0, m2))) (fun k m => hd9 (hx_L_held k) m))
abbrev M_L_fits : MI := (cL_fits, RL, 4, 11, 162, (some .int), "fits")
def hh_L_fits : List (Nat × Nat × Nat × Nat) := [(0, 9, 12, 13)]
def hx_L_fits (k : Nat) : Option Int32 := if k = 1 then some 1 else none
def F_L_fits (a0 : Nat) (a1 : Int32) (a2 : Nat) (m : Mm) : Option (Int32 × Mm) :=
 gd (okO m a0 11) (bx (F_X11_fits a0 a1 m) (fun r m1 => gd (okA m1 101 a2 0) (lt9 (wL m1 a2 (ix 0) r.toInt64) fun m2 => some (0, m2))) (fun k m => hd9 (hx_L_fits k) m))
abbrev M_L_look : MI := (cL_look, RL, 4, 11, 163, (some .int), "look")
def hh_L_look : List (Nat × Nat × Nat × Nat) := [(0, 9, 12, 13)]
def hx_L_look (k : Nat) : Option Int32 := if k = 1 then some 1 else none
def F_L_look (a0 : Nat) (a1 : Int32) (a2 : Nat) (m : Mm) : Option (Int32 × Mm) :=
 gd (okO m a0 11) (bx (F_X11_look a0 a1 m) (fun r m1 => gd (okA m1 101 a2 0) (lt9 (wL m1 a2 (ix 0) r.toInt64) fun m2 => some (0, m2))) (fun k m => hd9 (hx_L_look k) m))
abbrev M_L_spelt : MI := (cL_spelt, RL, 4, 11, 162, (some .int), "spelt")
def hh_L_spelt : List (Nat × Nat × Nat × Nat) := [(0, 9, 12, 13)]
def hx_L_spelt (k : Nat) : Option Int32 := if k = 1 then some 1 else none
def F_L_spelt (a0 : Nat) (a1 : Int32) (a2 : Nat) (m : Mm) : Option (Int32 × Mm) :=
 gd (okO m a0 11) (bx (F_X11_spelt a0 a1 m) (fun r m1 => gd (okA m1 101 a2 0) (lt9 (wL m1 a2 (ix 0) r.toInt64) fun m2 => some (0, m2))) (fun k m => hd9 (hx_L_spelt k) m))
abbrev M_L_lore : MI := (cL_lore, RL, 4, 11, 162, (some .int), "lore")
def hh_L_lore : List (Nat × Nat × Nat × Nat) := [(0, 9, 12, 31)]
def hx_L_lore (k : Nat) : Option Int32 := if k = 0 then some 1 else none
def F_L_lore (a0 : Nat) (a1 : Int32) (a2 : Nat) (m : Mm) : Option (Int32 × Mm) :=
 gd (okO m a0 11) (bx (F_X11_lore a0 a1 m) (fun r m1 => gd (okA m1 101 a2 0) (lt9 (wL m1 a2 (ix 0) r.toInt64) fun m2 => some (0, m2))) (fun k m => hd9 (hx_L_lore k) m))
abbrev M_L_behind : MI := (cL_behind, RL, 4, 11, 163, (some .int), "behind")
def hh_L_behind : List (Nat × Nat × Nat × Nat) := [(0, 9, 12, 13)]
def hx_L_behind (k : Nat) : Option Int32 := if k = 1 then some 1 else none
def F_L_behind (a0 : Nat) (a1 : Int32) (a2 : Nat) (m : Mm) : Option (Int32 × Mm) :=
 gd (okO m a0 11) (bx (F_X11_behind a0 a1 m) (fun r m1 => gd (okA m1 101 a2 0) (lt9 (wL m1 a2 (ix 0) r.toInt64) fun m2 => some (0, m2))) (fun k m => hd9 (hx_L_behind k) m))
abbrev M_L_storm : MI := (cL_storm, RL, 7, 11, 192, (some .int), "storm")
def hh_L_storm : List (Nat × Nat × Nat × Nat) := [(0, 14, 17, 13)]
def hx_L_storm (k : Nat) : Option Int32 := if k = 1 then some 1 else none
def F_L_storm (a0 : Nat) (a1 : Int32) (a2 : Int32) (a3 : Int32) (a4 : Int32) (a5 : Nat) (m : Mm) : Option (Int32 × Mm) :=
 gd (okO m a0 11) (bx (F_X11_storm a0 a1 a2 a3 a4 m) (fun r m1 => gd (okA m1 101 a5 0) (lt9 (wL m1 a5 (ix 0) r.toInt64) fun m2 => some (0, m2))) (fun k m => hd9 (hx_L_storm k) m))
abbrev M_L_span : MI := (cL_span, RL, 9, 11, 198, (some .int), "span")
def hh_L_span : List (Nat × Nat × Nat × Nat) := [(0, 18, 21, 31), (0, 18, 25, 13)]
def hx_L_span (k : Nat) : Option Int32 := if k = 0 then some 1 else if k = 1 then some 2 else none
def F_L_span (a0 : Nat) (a1 : Int32) (a2 : Int32) (a3 : Int32) (a4 : Int32) (a5 : Int32) (a6 : Int32) (a7 : Nat) (m : Mm) : Option (Int32 × Mm) :=
 gd (okO m a0 11) (bx (F_X11_span a0 a1 a2 a3 a4 a5 a6 m) (fun r m1 => gd (okA m1 101 a7 0) (lt9 (wL m1 a7 (ix 0) r.toInt64) fun m2 => some (0, m2))) (fun k m => hd9 (hx_L_span k) m))
set_option maxRecDepth 100000 in
set_option maxHeartbeats 4000000 in
theorem hdk_L_group : ∀ (k : Nat) (v : Int32), hx_L_group k = some v → HdOk M_L_group hh_L_group 4 k v := by
  intro k v h
  unfold hx_L_group at h
  by_cases e1 : k = 1
  · rw [if_pos e1] at h
    cases h
    subst e1
    exact ⟨[], ⟨0, 9, 12, 13⟩, [], 1, 3, 1, rfl, (fun z hz => nomatch hz), by decide, by decide, q_637, by decide, Or.inl ⟨3, rfl, rfl, dL_group_12⟩, by decide, dL_group_13, ki_1, dL_group_14⟩
  rw [if_neg e1] at h
  cases h
set_option maxRecDepth 100000 in
set_option maxHeartbeats 4000000 in
theorem crt_L_group (l : Launch) (θ : Th) (a0 : Nat) (a1 : Int32) (a2 : Nat) (m : Mm) : CrtW l θ yL_group M_L_group hh_L_group cvI [.ref a0, .int a1, .ref a2] m (F_L_group a0 a1 a2 m) := by
  refine crtw_of 1 (by decide) rfl rfl (Nat.le_of_ble_eq_true rfl) (fun Z hμ ht => ?_)
  unfold F_L_group
  show GG Z _ _ 0 [some (.ref a0), some (.int a1), some (.ref a2), none] [] m _
  refine g_aload_n (i := 2) dL_group_0 rfl rfl ?_
  refine g_iconst (v := 0) dL_group_1 ki_0 ?_
  refine g_aload_n (i := 0) dL_group_2 rfl rfl ?_
  refine g_iload_n (i := 1) dL_group_3 rfl rfl ?_
  refine g_callXC (hh := hh_L_group) ht rfl cl_X11 (crt_X11_group _ _ _ _ _) cw_X11_group (by decide) rfl q_638 q_639 q_640 rfl rfl dL_group_4 hdk_L_group ?_
  intro r m1
  refine g_i2l dL_group_7 ?_
  refine g_lastore dL_group_8 ?_
  intro m2
  refine g_goto (tgt := 15) dL_group_9 (by decide) ?_
  refine g_iconst (v := 0) dL_group_15 ki_0 ?_
  exact g_ireturn rfl dL_group_16
set_option maxRecDepth 100000 in
set_option maxHeartbeats 4000000 in
theorem hdk_L_law : ∀ (k : Nat) (v : Int32), hx_L_law k = some v → HdOk M_L_law hh_L_law 4 k v := by
  intro k v h
  unfold hx_L_law at h
  by_cases e1 : k = 1
  · rw [if_pos e1] at h
    cases h
    subst e1
    exact ⟨[], ⟨0, 9, 12, 13⟩, [], 1, 3, 1, rfl, (fun z hz => nomatch hz), by decide, by decide, q_637, by decide, Or.inl ⟨3, rfl, rfl, dL_law_12⟩, by decide, dL_law_13, ki_1, dL_law_14⟩
  rw [if_neg e1] at h
  cases h
set_option maxRecDepth 100000 in
set_option maxHeartbeats 4000000 in
theorem crt_L_law (l : Launch) (θ : Th) (a0 : Nat) (a1 : Int32) (a2 : Nat) (m : Mm) : CrtW l θ yL_law M_L_law hh_L_law cvI [.ref a0, .int a1, .ref a2] m (F_L_law a0 a1 a2 m) := by
  refine crtw_of 1 (by decide) rfl rfl (Nat.le_of_ble_eq_true rfl) (fun Z hμ ht => ?_)
  unfold F_L_law
  show GG Z _ _ 0 [some (.ref a0), some (.int a1), some (.ref a2), none] [] m _
  refine g_aload_n (i := 2) dL_law_0 rfl rfl ?_
  refine g_iconst (v := 0) dL_law_1 ki_0 ?_
  refine g_aload_n (i := 0) dL_law_2 rfl rfl ?_
  refine g_iload_n (i := 1) dL_law_3 rfl rfl ?_
  refine g_callXC (hh := hh_L_law) ht rfl cl_X11 (crt_X11_law _ _ _ _ _) cw_X11_law (by decide) rfl q_845 q_846 q_847 rfl rfl dL_law_4 hdk_L_law ?_
  intro r m1
  refine g_i2l dL_law_7 ?_
  refine g_lastore dL_law_8 ?_
  intro m2
  refine g_goto (tgt := 15) dL_law_9 (by decide) ?_
  refine g_iconst (v := 0) dL_law_15 ki_0 ?_
  exact g_ireturn rfl dL_law_16
set_option maxRecDepth 100000 in
set_option maxHeartbeats 4000000 in
theorem hdk_L_work : ∀ (k : Nat) (v : Int32), hx_L_work k = some v → HdOk M_L_work hh_L_work 4 k v := by
  intro k v h
  unfold hx_L_work at h
  by_cases e1 : k = 1
  · rw [if_pos e1] at h
    cases h
    subst e1
    exact ⟨[], ⟨0, 9, 12, 13⟩, [], 1, 3, 1, rfl, (fun z hz => nomatch hz), by decide, by decide, q_637, by decide, Or.inl ⟨3, rfl, rfl, dL_work_12⟩, by decide, dL_work_13, ki_1, dL_work_14⟩
  rw [if_neg e1] at h
  cases h
set_option maxRecDepth 100000 in
set_option maxHeartbeats 4000000 in
theorem crt_L_work (l : Launch) (θ : Th) (a0 : Nat) (a1 : Int32) (a2 : Nat) (m : Mm) : CrtW l θ yL_work M_L_work hh_L_work cvI [.ref a0, .int a1, .ref a2] m (F_L_work a0 a1 a2 m) := by
  refine crtw_of 1 (by decide) rfl rfl (Nat.le_of_ble_eq_true rfl) (fun Z hμ ht => ?_)
  unfold F_L_work
  show GG Z _ _ 0 [some (.ref a0), some (.int a1), some (.ref a2), none] [] m _
  refine g_aload_n (i := 2) dL_work_0 rfl rfl ?_
  refine g_iconst (v := 0) dL_work_1 ki_0 ?_
  refine g_aload_n (i := 0) dL_work_2 rfl rfl ?_
  refine g_iload_n (i := 1) dL_work_3 rfl rfl ?_
  refine g_callXC (hh := hh_L_work) ht rfl cl_X11 (crt_X11_work _ _ _ _ _) cw_X11_work (by decide) rfl q_896 q_897 q_898 rfl rfl dL_work_4 hdk_L_work ?_
  intro r m1
  refine g_i2l dL_work_7 ?_
  refine g_lastore dL_work_8 ?_
  intro m2
  refine g_goto (tgt := 15) dL_work_9 (by decide) ?_
  refine g_iconst (v := 0) dL_work_15 ki_0 ?_
  exact g_ireturn rfl dL_work_16
set_option maxRecDepth 100000 in
set_option maxHeartbeats 4000000 in
theorem hdk_L_book : ∀ (k : Nat) (v : Int32), hx_L_book k = some v → HdOk M_L_book hh_L_book 4 k v := by
  intro k v h
  unfold hx_L_book at h
  by_cases e1 : k = 1
  · rw [if_pos e1] at h
    cases h
    subst e1
    exact ⟨[], ⟨0, 9, 12, 13⟩, [], 1, 3, 1, rfl, (fun z hz => nomatch hz), by decide, by decide, q_637, by decide, Or.inl ⟨3, rfl, rfl, dL_book_12⟩, by decide, dL_book_13, ki_1, dL_book_14⟩
  rw [if_neg e1] at h
  cases h
set_option maxRecDepth 100000 in
set_option maxHeartbeats 4000000 in
theorem crt_L_book (l : Launch) (θ : Th) (a0 : Nat) (a1 : Int32) (a2 : Nat) (m : Mm) : CrtW l θ yL_book M_L_book hh_L_book cvI [.ref a0, .int a1, .ref a2] m (F_L_book a0 a1 a2 m) := by
  refine crtw_of 1 (by decide) rfl rfl (Nat.le_of_ble_eq_true rfl) (fun Z hμ ht => ?_)
  unfold F_L_book
  show GG Z _ _ 0 [some (.ref a0), some (.int a1), some (.ref a2), none] [] m _
  refine g_aload_n (i := 2) dL_book_0 rfl rfl ?_
  refine g_iconst (v := 0) dL_book_1 ki_0 ?_
  refine g_aload_n (i := 0) dL_book_2 rfl rfl ?_
  refine g_iload_n (i := 1) dL_book_3 rfl rfl ?_
  refine g_callXC (hh := hh_L_book) ht rfl cl_X11 (crt_X11_book _ _ _ _ _) cw_X11_book (by decide) rfl q_1048 q_1049 q_1050 rfl rfl dL_book_4 hdk_L_book ?_
  intro r m1
  refine g_i2l dL_book_7 ?_
  refine g_lastore dL_book_8 ?_
  intro m2
  refine g_goto (tgt := 15) dL_book_9 (by decide) ?_
  refine g_iconst (v := 0) dL_book_15 ki_0 ?_
  exact g_ireturn rfl dL_book_16
set_option maxRecDepth 100000 in
set_option maxHeartbeats 4000000 in
theorem hdk_L_told : ∀ (k : Nat) (v : Int32), hx_L_told k = some v → HdOk M_L_told hh_L_told 4 k v := by
  intro k v h
  unfold hx_L_told at h
  by_cases e1 : k = 1
  · rw [if_pos e1] at h
    cases h
    subst e1
    exact ⟨[], ⟨0, 9, 12, 13⟩, [], 1, 3, 1, rfl, (fun z hz => nomatch hz), by decide, by decide, q_637, by decide, Or.inl ⟨3, rfl, rfl, dL_told_12⟩, by decide, dL_told_13, ki_1, dL_told_14⟩
  rw [if_neg e1] at h
  cases h
set_option maxRecDepth 100000 in
set_option maxHeartbeats 4000000 in
theorem crt_L_told (l : Launch) (θ : Th) (a0 : Nat) (a1 : Int32) (a2 : Nat) (m : Mm) : CrtW l θ yL_told M_L_told hh_L_told cvI [.ref a0, .int a1, .ref a2] m (F_L_told a0 a1 a2 m) := by
  refine crtw_of 1 (by decide) rfl rfl (Nat.le_of_ble_eq_true rfl) (fun Z hμ ht => ?_)
  unfold F_L_told
  show GG Z _ _ 0 [some (.ref a0), some (.int a1), some (.ref a2), none] [] m _
  refine g_aload_n (i := 2) dL_told_0 rfl rfl ?_
  refine g_iconst (v := 0) dL_told_1 ki_0 ?_
  refine g_aload_n (i := 0) dL_told_2 rfl rfl ?_
  refine g_iload_n (i := 1) dL_told_3 rfl rfl ?_
  refine g_callXC (hh := hh_L_told) ht rfl cl_X11 (crt_X11_told _ _ _ _ _) cw_X11_told (by decide) rfl q_1065 q_1066 q_1067 rfl rfl dL_told_4 hdk_L_told ?_
  intro r m1
  refine g_i2l dL_told_7 ?_
  refine g_lastore dL_told_8 ?_
  intro m2
  refine g_goto (tgt := 15) dL_told_9 (by decide) ?_
  refine g_iconst (v := 0) dL_told_15 ki_0 ?_
  exact g_ireturn rfl dL_told_16
set_option maxRecDepth 100000 in
set_option maxHeartbeats 4000000 in
theorem hdk_L_member : ∀ (k : Nat) (v : Int32), hx_L_member k = some v → HdOk M_L_member hh_L_member 5 k v := by
  intro k v h
  unfold hx_L_member at h
  by_cases e0 : k = 0
  · rw [if_pos e0] at h
    cases h
    subst e0
    exact ⟨[], ⟨0, 10, 13, 31⟩, [⟨0, 10, 17, 13⟩], 1, 4, 2, rfl, (fun z hz => nomatch hz), by decide, by decide, q_1077, by decide, Or.inr ⟨rfl, dL_member_13⟩, by decide, dL_member_15, ki_1, dL_member_16⟩
  rw [if_neg e0] at h
  by_cases e1 : k = 1
  · rw [if_pos e1] at h
    cases h
    subst e1
    exact ⟨[⟨0, 10, 13, 31⟩], ⟨0, 10, 17, 13⟩, [], 2, 4, 2, rfl, (fun z hz => by rw [List.mem_singleton.mp hz]; exact Or.inr ⟨by decide, _, q_1077, by decide⟩), by decide, by decide, q_637, by decide, Or.inr ⟨rfl, dL_member_17⟩, by decide, dL_member_19, ki_2, dL_member_20⟩
  rw [if_neg e1] at h
  cases h
set_option maxRecDepth 100000 in
set_option maxHeartbeats 4000000 in
theorem crt_L_member (l : Launch) (θ : Th) (a0 : Nat) (a1 : Int32) (a2 : Int32) (a3 : Nat) (m : Mm) : CrtW l θ yL_member M_L_member hh_L_member cvI [.ref a0, .int a1, .int a2, .ref a3] m (F_L_member a0 a1 a2 a3 m) := by
  refine crtw_of 1 (by decide) rfl rfl (Nat.le_of_ble_eq_true rfl) (fun Z hμ ht => ?_)
  unfold F_L_member
  show GG Z _ _ 0 [some (.ref a0), some (.int a1), some (.int a2), some (.ref a3), none] [] m _
  refine g_aload_n (i := 3) dL_member_0 rfl rfl ?_
  refine g_iconst (v := 0) dL_member_1 ki_0 ?_
  refine g_aload_n (i := 0) dL_member_2 rfl rfl ?_
  refine g_iload_n (i := 1) dL_member_3 rfl rfl ?_
  refine g_iload_n (i := 2) dL_member_4 rfl rfl ?_
  refine g_callXC (hh := hh_L_member) ht rfl cl_X11 (crt_X11_member _ _ _ _ _ _) cw_X11_member (by decide) rfl q_1078 q_1079 q_1080 rfl rfl dL_member_5 hdk_L_member ?_
  intro r m1
  refine g_i2l dL_member_8 ?_
  refine g_lastore dL_member_9 ?_
  intro m2
  refine g_goto (tgt := 21) dL_member_10 (by decide) ?_
  refine g_iconst (v := 0) dL_member_21 ki_0 ?_
  exact g_ireturn rfl dL_member_22
set_option maxRecDepth 100000 in
set_option maxHeartbeats 4000000 in
theorem hdk_L_tally : ∀ (k : Nat) (v : Int32), hx_L_tally k = some v → HdOk M_L_tally hh_L_tally 4 k v := by
  intro k v h
  unfold hx_L_tally at h
  by_cases e0 : k = 0
  · rw [if_pos e0] at h
    cases h
    subst e0
    exact ⟨[], ⟨0, 8, 11, 31⟩, [], 1, 3, 1, rfl, (fun z hz => nomatch hz), by decide, by decide, q_1077, by decide, Or.inl ⟨3, rfl, rfl, dL_tally_11⟩, by decide, dL_tally_12, ki_1, dL_tally_13⟩
  rw [if_neg e0] at h
  cases h
set_option maxRecDepth 100000 in
set_option maxHeartbeats 4000000 in
theorem crt_L_tally (l : Launch) (θ : Th) (a0 : Nat) (a1 : Int32) (a2 : Nat) (m : Mm) : CrtW l θ yL_tally M_L_tally hh_L_tally cvI [.ref a0, .int a1, .ref a2] m (F_L_tally a0 a1 a2 m) := by
  refine crtw_of 1 (by decide) rfl rfl (Nat.le_of_ble_eq_true rfl) (fun Z hμ ht => ?_)
  unfold F_L_tally
  show GG Z _ _ 0 [some (.ref a0), some (.int a1), some (.ref a2), none] [] m _
  refine g_aload_n (i := 2) dL_tally_0 rfl rfl ?_
  refine g_iconst (v := 0) dL_tally_1 ki_0 ?_
  refine g_aload_n (i := 0) dL_tally_2 rfl rfl ?_
  refine g_iload_n (i := 1) dL_tally_3 rfl rfl ?_
  refine g_callXC (hh := hh_L_tally) ht rfl cl_X11 (crt_X11_tally _ _ _ _ _) cw_X11_tally (by decide) rfl q_1107 q_1108 q_1109 rfl rfl dL_tally_4 hdk_L_tally ?_
  intro r m1
  refine g_lastore dL_tally_7 ?_
  intro m2
  refine g_goto (tgt := 14) dL_tally_8 (by decide) ?_
  refine g_iconst (v := 0) dL_tally_14 ki_0 ?_
  exact g_ireturn rfl dL_tally_15
set_option maxRecDepth 100000 in
set_option maxHeartbeats 4000000 in
theorem hdk_L_log : ∀ (k : Nat) (v : Int32), hx_L_log k = some v → HdOk M_L_log hh_L_log 5 k v := by
  intro k v h
  unfold hx_L_log at h
  by_cases e0 : k = 0
  · rw [if_pos e0] at h
    cases h
    subst e0
    exact ⟨[], ⟨0, 9, 12, 31⟩, [⟨0, 9, 16, 41⟩, ⟨0, 9, 20, 43⟩], 1, 4, 2, rfl, (fun z hz => nomatch hz), by decide, by decide, q_1077, by decide, Or.inr ⟨rfl, dL_log_12⟩, by decide, dL_log_14, ki_1, dL_log_15⟩
  rw [if_neg e0] at h
  by_cases e2 : k = 2
  · rw [if_pos e2] at h
    cases h
    subst e2
    exact ⟨[⟨0, 9, 12, 31⟩], ⟨0, 9, 16, 41⟩, [⟨0, 9, 20, 43⟩], 2, 4, 2, rfl, (fun z hz => by rw [List.mem_singleton.mp hz]; exact Or.inr ⟨by decide, _, q_1077, by decide⟩), by decide, by decide, q_1114, by decide, Or.inr ⟨rfl, dL_log_16⟩, by decide, dL_log_18, ki_2, dL_log_19⟩
  rw [if_neg e2] at h
  by_cases e3 : k = 3
  · rw [if_pos e3] at h
    cases h
    subst e3
    exact ⟨[⟨0, 9, 12, 31⟩, ⟨0, 9, 16, 41⟩], ⟨0, 9, 20, 43⟩, [], 3, 4, 2, rfl, (fun z hz => by rcases List.mem_cons.mp hz with e | hz; (rw [e]; exact Or.inr ⟨by decide, _, q_1077, by decide⟩); rw [List.mem_singleton.mp hz]; exact Or.inr ⟨by decide, _, q_1114, by decide⟩), by decide, by decide, q_1133, by decide, Or.inr ⟨rfl, dL_log_20⟩, by decide, dL_log_22, ki_3, dL_log_23⟩
  rw [if_neg e3] at h
  cases h
set_option maxRecDepth 100000 in
set_option maxHeartbeats 4000000 in
theorem crt_L_log (l : Launch) (θ : Th) (a0 : Nat) (a1 : Int32) (a2 : Int32) (a3 : Nat) (m : Mm) : CrtW l θ yL_log M_L_log hh_L_log cvI [.ref a0, .int a1, .int a2, .ref a3] m (F_L_log a0 a1 a2 a3 m) := by
  refine crtw_of 1 (by decide) rfl rfl (Nat.le_of_ble_eq_true rfl) (fun Z hμ ht => ?_)
  unfold F_L_log
  show GG Z _ _ 0 [some (.ref a0), some (.int a1), some (.int a2), some (.ref a3), none] [] m _
  refine g_aload_n (i := 3) dL_log_0 rfl rfl ?_
  refine g_iconst (v := 0) dL_log_1 ki_0 ?_
  refine g_aload_n (i := 0) dL_log_2 rfl rfl ?_
  refine g_iload_n (i := 1) dL_log_3 rfl rfl ?_
  refine g_iload_n (i := 2) dL_log_4 rfl rfl ?_
  refine g_callXC (hh := hh_L_log) ht rfl cl_X11 (crt_X11_log _ _ _ _ _ _) cw_X11_log (by decide) rfl q_1165 q_1166 q_1167 rfl rfl dL_log_5 hdk_L_log ?_
  intro r m1
  refine g_lastore dL_log_8 ?_
  intro m2
  refine g_goto (tgt := 24) dL_log_9 (by decide) ?_
  refine g_iconst (v := 0) dL_log_24 ki_0 ?_
  exact g_ireturn rfl dL_log_25
set_option maxRecDepth 100000 in
set_option maxHeartbeats 4000000 in
theorem hdk_L_message : ∀ (k : Nat) (v : Int32), hx_L_message k = some v → HdOk M_L_message hh_L_message 5 k v := by
  intro k v h
  unfold hx_L_message at h
  by_cases e1 : k = 1
  · rw [if_pos e1] at h
    cases h
    subst e1
    exact ⟨[], ⟨0, 10, 13, 13⟩, [⟨0, 10, 17, 41⟩, ⟨0, 10, 21, 43⟩], 1, 4, 2, rfl, (fun z hz => nomatch hz), by decide, by decide, q_637, by decide, Or.inr ⟨rfl, dL_message_13⟩, by decide, dL_message_15, ki_1, dL_message_16⟩
  rw [if_neg e1] at h
  by_cases e2 : k = 2
  · rw [if_pos e2] at h
    cases h
    subst e2
    exact ⟨[⟨0, 10, 13, 13⟩], ⟨0, 10, 17, 41⟩, [⟨0, 10, 21, 43⟩], 2, 4, 2, rfl, (fun z hz => by rw [List.mem_singleton.mp hz]; exact Or.inr ⟨by decide, _, q_637, by decide⟩), by decide, by decide, q_1114, by decide, Or.inr ⟨rfl, dL_message_17⟩, by decide, dL_message_19, ki_2, dL_message_20⟩
  rw [if_neg e2] at h
  by_cases e3 : k = 3
  · rw [if_pos e3] at h
    cases h
    subst e3
    exact ⟨[⟨0, 10, 13, 13⟩, ⟨0, 10, 17, 41⟩], ⟨0, 10, 21, 43⟩, [], 3, 4, 2, rfl, (fun z hz => by rcases List.mem_cons.mp hz with e | hz; (rw [e]; exact Or.inr ⟨by decide, _, q_637, by decide⟩); rw [List.mem_singleton.mp hz]; exact Or.inr ⟨by decide, _, q_1114, by decide⟩), by decide, by decide, q_1133, by decide, Or.inr ⟨rfl, dL_message_21⟩, by decide, dL_message_23, ki_3, dL_message_24⟩
  rw [if_neg e3] at h
  cases h
set_option maxRecDepth 100000 in
set_option maxHeartbeats 4000000 in
theorem crt_L_message (l : Launch) (θ : Th) (a0 : Nat) (a1 : Int32) (a2 : Int32) (a3 : Nat) (m : Mm) : CrtW l θ yL_message M_L_message hh_L_message cvI [.ref a0, .int a1, .int a2, .ref a3] m (F_L_message a0 a1 a2 a3 m) := by
  refine crtw_of 1 (by decide) rfl rfl (Nat.le_of_ble_eq_true rfl) (fun Z hμ ht => ?_)
  unfold F_L_message
  show GG Z _ _ 0 [some (.ref a0), some (.int a1), some (.int a2), some (.ref a3), none] [] m _
  refine g_aload_n (i := 3) dL_message_0 rfl rfl ?_
  refine g_iconst (v := 0) dL_message_1 ki_0 ?_
  refine g_aload_n (i := 0) dL_message_2 rfl rfl ?_
  refine g_iload_n (i := 1) dL_message_3 rfl rfl ?_
  refine g_iload_n (i := 2) dL_message_4 rfl rfl ?_
  refine g_callXC (hh := hh_L_message) ht rfl cl_X11 (crt_X11_message _ _ _ _ _ _) cw_X11_message (by decide) rfl q_1197 q_1198 q_1199 rfl rfl dL_message_5 hdk_L_message ?_
  intro r m1
  refine g_i2l dL_message_8 ?_
  refine g_lastore dL_message_9 ?_
  intro m2
  refine g_goto (tgt := 25) dL_message_10 (by decide) ?_
  refine g_iconst (v := 0) dL_message_25 ki_0 ?_
  exact g_ireturn rfl dL_message_26
set_option maxRecDepth 100000 in
set_option maxHeartbeats 4000000 in
theorem hdk_L_knows : ∀ (k : Nat) (v : Int32), hx_L_knows k = some v → HdOk M_L_knows hh_L_knows 5 k v := by
  intro k v h
  unfold hx_L_knows at h
  by_cases e0 : k = 0
  · rw [if_pos e0] at h
    cases h
    subst e0
    exact ⟨[], ⟨0, 10, 13, 31⟩, [], 1, 4, 2, rfl, (fun z hz => nomatch hz), by decide, by decide, q_1077, by decide, Or.inr ⟨rfl, dL_knows_13⟩, by decide, dL_knows_15, ki_1, dL_knows_16⟩
  rw [if_neg e0] at h
  cases h
set_option maxRecDepth 100000 in
set_option maxHeartbeats 4000000 in
theorem crt_L_knows (l : Launch) (θ : Th) (a0 : Nat) (a1 : Int32) (a2 : Int32) (a3 : Nat) (m : Mm) : CrtW l θ yL_knows M_L_knows hh_L_knows cvI [.ref a0, .int a1, .int a2, .ref a3] m (F_L_knows a0 a1 a2 a3 m) := by
  refine crtw_of 1 (by decide) rfl rfl (Nat.le_of_ble_eq_true rfl) (fun Z hμ ht => ?_)
  unfold F_L_knows
  show GG Z _ _ 0 [some (.ref a0), some (.int a1), some (.int a2), some (.ref a3), none] [] m _
  refine g_aload_n (i := 3) dL_knows_0 rfl rfl ?_
  refine g_iconst (v := 0) dL_knows_1 ki_0 ?_
  refine g_aload_n (i := 0) dL_knows_2 rfl rfl ?_
  refine g_iload_n (i := 1) dL_knows_3 rfl rfl ?_
  refine g_iload_n (i := 2) dL_knows_4 rfl rfl ?_
  refine g_callXC (hh := hh_L_knows) ht rfl cl_X11 (crt_X11_knows _ _ _ _ _ _) cw_X11_knows (by decide) rfl q_1207 q_1208 q_1209 rfl rfl dL_knows_5 hdk_L_knows ?_
  intro r m1
  refine g_i2l dL_knows_8 ?_
  refine g_lastore dL_knows_9 ?_
  intro m2
  refine g_goto (tgt := 17) dL_knows_10 (by decide) ?_
  refine g_iconst (v := 0) dL_knows_17 ki_0 ?_
  exact g_ireturn rfl dL_knows_18
set_option maxRecDepth 100000 in
set_option maxHeartbeats 4000000 in
theorem hdk_L_stable : ∀ (k : Nat) (v : Int32), hx_L_stable k = some v → HdOk M_L_stable hh_L_stable 4 k v := by
  intro k v h
  unfold hx_L_stable at h
  by_cases e0 : k = 0
  · rw [if_pos e0] at h
    cases h
    subst e0
    exact ⟨[], ⟨0, 9, 12, 31⟩, [], 1, 3, 1, rfl, (fun z hz => nomatch hz), by decide, by decide, q_1077, by decide, Or.inl ⟨3, rfl, rfl, dL_stable_12⟩, by decide, dL_stable_13, ki_1, dL_stable_14⟩
  rw [if_neg e0] at h
  cases h
set_option maxRecDepth 100000 in
set_option maxHeartbeats 4000000 in
theorem crt_L_stable (l : Launch) (θ : Th) (a0 : Nat) (a1 : Int32) (a2 : Nat) (m : Mm) : CrtW l θ yL_stable M_L_stable hh_L_stable cvI [.ref a0, .int a1, .ref a2] m (F_L_stable a0 a1 a2 m) := by
  refine crtw_of 1 (by decide) rfl rfl (Nat.le_of_ble_eq_true rfl) (fun Z hμ ht => ?_)
  unfold F_L_stable
  show GG Z _ _ 0 [some (.ref a0), some (.int a1), some (.ref a2), none] [] m _
  refine g_aload_n (i := 2) dL_stable_0 rfl rfl ?_
  refine g_iconst (v := 0) dL_stable_1 ki_0 ?_
  refine g_aload_n (i := 0) dL_stable_2 rfl rfl ?_
  refine g_iload_n (i := 1) dL_stable_3 rfl rfl ?_
  refine g_callXC (hh := hh_L_stable) ht rfl cl_X11 (crt_X11_stable _ _ _ _ _) cw_X11_stable (by decide) rfl q_1214 q_1215 q_1216 rfl rfl dL_stable_4 hdk_L_stable ?_
  intro r m1
  refine g_i2l dL_stable_7 ?_
  refine g_lastore dL_stable_8 ?_
  intro m2
  refine g_goto (tgt := 15) dL_stable_9 (by decide) ?_
  refine g_iconst (v := 0) dL_stable_15 ki_0 ?_
  exact g_ireturn rfl dL_stable_16
set_option maxRecDepth 100000 in
set_option maxHeartbeats 4000000 in
theorem hdk_L_would : ∀ (k : Nat) (v : Int32), hx_L_would k = some v → HdOk M_L_would hh_L_would 9 k v := by
  intro k v h
  unfold hx_L_would at h
  by_cases e1 : k = 1
  · rw [if_pos e1] at h
    cases h
    subst e1
    exact ⟨[], ⟨0, 14, 17, 13⟩, [], 1, 6, 2, rfl, (fun z hz => nomatch hz), by decide, by decide, q_637, by decide, Or.inr ⟨rfl, dL_would_17⟩, by decide, dL_would_19, ki_1, dL_would_20⟩
  rw [if_neg e1] at h
  cases h
set_option maxRecDepth 100000 in
set_option maxHeartbeats 4000000 in
theorem crt_L_would (l : Launch) (θ : Th) (a0 : Nat) (a1 : Int32) (a2 : Int32) (a3 : Int32) (a4 : Int32) (a5 : Nat) (m : Mm) : CrtW l θ yL_would M_L_would hh_L_would cvI [.ref a0, .int a1, .int a2, .int a3, .int a4, .ref a5] m (F_L_would a0 a1 a2 a3 a4 a5 m) := by
  refine crtw_of 1 (by decide) rfl rfl (Nat.le_of_ble_eq_true rfl) (fun Z hμ ht => ?_)
  unfold F_L_would
  show GG Z _ _ 0 [some (.ref a0), some (.int a1), some (.int a2), some (.int a3), some (.int a4), some (.ref a5), none] [] m _
  refine g_aload dL_would_0 rfl ?_
  refine g_iconst (v := 0) dL_would_2 ki_0 ?_
  refine g_aload_n (i := 0) dL_would_3 rfl rfl ?_
  refine g_iload_n (i := 1) dL_would_4 rfl rfl ?_
  refine g_iload_n (i := 2) dL_would_5 rfl rfl ?_
  refine g_iload_n (i := 3) dL_would_6 rfl rfl ?_
  refine g_iload dL_would_7 rfl ?_
  refine g_callXC (hh := hh_L_would) ht rfl cl_X11 (crt_X11_would _ _ _ _ _ _ _ _) cw_X11_would (by decide) rfl q_1222 q_1223 q_1224 rfl rfl dL_would_9 hdk_L_would ?_
  intro r m1
  refine g_i2l dL_would_12 ?_
  refine g_lastore dL_would_13 ?_
  intro m2
  refine g_goto (tgt := 21) dL_would_14 (by decide) ?_
  refine g_iconst (v := 0) dL_would_21 ki_0 ?_
  exact g_ireturn rfl dL_would_22
set_option maxRecDepth 100000 in
set_option maxHeartbeats 4000000 in
theorem hdk_L_missing : ∀ (k : Nat) (v : Int32), hx_L_missing k = some v → HdOk M_L_missing hh_L_missing 4 k v := by
  intro k v h
  unfold hx_L_missing at h
  by_cases e0 : k = 0
  · rw [if_pos e0] at h
    cases h
    subst e0
    exact ⟨[], ⟨0, 9, 12, 31⟩, [], 1, 3, 1, rfl, (fun z hz => nomatch hz), by decide, by decide, q_1077, by decide, Or.inl ⟨3, rfl, rfl, dL_missing_12⟩, by decide, dL_missing_13, ki_1, dL_missing_14⟩
  rw [if_neg e0] at h
  cases h
set_option maxRecDepth 100000 in
set_option maxHeartbeats 4000000 in
theorem crt_L_missing (l : Launch) (θ : Th) (a0 : Nat) (a1 : Int32) (a2 : Nat) (m : Mm) : CrtW l θ yL_missing M_L_missing hh_L_missing cvI [.ref a0, .int a1, .ref a2] m (F_L_missing a0 a1 a2 m) := by
  refine crtw_of 1 (by decide) rfl rfl (Nat.le_of_ble_eq_true rfl) (fun Z hμ ht => ?_)
  unfold F_L_missing
  show GG Z _ _ 0 [some (.ref a0), some (.int a1), some (.ref a2), none] [] m _
  refine g_aload_n (i := 2) dL_missing_0 rfl rfl ?_
  refine g_iconst (v := 0) dL_missing_1 ki_0 ?_
  refine g_aload_n (i := 0) dL_missing_2 rfl rfl ?_
  refine g_iload_n (i := 1) dL_missing_3 rfl rfl ?_
  refine g_callXC (hh := hh_L_missing) ht rfl cl_X11 (crt_X11_missing _ _ _ _ _) cw_X11_missing (by decide) rfl q_1229 q_1230 q_1231 rfl rfl dL_missing_4 hdk_L_missing ?_
  intro r m1
  refine g_i2l dL_missing_7 ?_
  refine g_lastore dL_missing_8 ?_
  intro m2
  refine g_goto (tgt := 15) dL_missing_9 (by decide) ?_
  refine g_iconst (v := 0) dL_missing_15 ki_0 ?_
  exact g_ireturn rfl dL_missing_16
set_option maxRecDepth 100000 in
set_option maxHeartbeats 4000000 in
theorem hdk_L_next : ∀ (k : Nat) (v : Int32), hx_L_next k = some v → HdOk M_L_next hh_L_next 4 k v := by
  intro k v h
  unfold hx_L_next at h
  by_cases e0 : k = 0
  · rw [if_pos e0] at h
    cases h
    subst e0
    exact ⟨[], ⟨0, 9, 12, 31⟩, [], 1, 3, 1, rfl, (fun z hz => nomatch hz), by decide, by decide, q_1077, by decide, Or.inl ⟨3, rfl, rfl, dL_next_12⟩, by decide, dL_next_13, ki_1, dL_next_14⟩
  rw [if_neg e0] at h
  cases h
set_option maxRecDepth 100000 in
set_option maxHeartbeats 4000000 in
theorem crt_L_next (l : Launch) (θ : Th) (a0 : Nat) (a1 : Int32) (a2 : Nat) (m : Mm) : CrtW l θ yL_next M_L_next hh_L_next cvI [.ref a0, .int a1, .ref a2] m (F_L_next a0 a1 a2 m) := by
  refine crtw_of 1 (by decide) rfl rfl (Nat.le_of_ble_eq_true rfl) (fun Z hμ ht => ?_)
  unfold F_L_next
  show GG Z _ _ 0 [some (.ref a0), some (.int a1), some (.ref a2), none] [] m _
  refine g_aload_n (i := 2) dL_next_0 rfl rfl ?_
  refine g_iconst (v := 0) dL_next_1 ki_0 ?_
  refine g_aload_n (i := 0) dL_next_2 rfl rfl ?_
  refine g_iload_n (i := 1) dL_next_3 rfl rfl ?_
  refine g_callXC (hh := hh_L_next) ht rfl cl_X11 (crt_X11_next _ _ _ _ _) cw_X11_next (by decide) rfl q_1237 q_1238 q_1239 rfl rfl dL_next_4 hdk_L_next ?_
  intro r m1
  refine g_i2l dL_next_7 ?_
  refine g_lastore dL_next_8 ?_
  intro m2
  refine g_goto (tgt := 15) dL_next_9 (by decide) ?_
  refine g_iconst (v := 0) dL_next_15 ki_0 ?_
  exact g_ireturn rfl dL_next_16
set_option maxRecDepth 100000 in
set_option maxHeartbeats 4000000 in
theorem hdk_L_held : ∀ (k : Nat) (v : Int32), hx_L_held k = some v → HdOk M_L_held hh_L_held 5 k v := by
  intro k v h
  unfold hx_L_held at h
  by_cases e0 : k = 0
  · rw [if_pos e0] at h
    cases h
    subst e0
    exact ⟨[], ⟨0, 10, 13, 31⟩, [⟨0, 10, 17, 13⟩], 1, 4, 2, rfl, (fun z hz => nomatch hz), by decide, by decide, q_1077, by decide, Or.inr ⟨rfl, dL_held_13⟩, by decide, dL_held_15, ki_1, dL_held_16⟩
  rw [if_neg e0] at h
  by_cases e1 : k = 1
  · rw [if_pos e1] at h
    cases h
    subst e1
    exact ⟨[⟨0, 10, 13, 31⟩], ⟨0, 10, 17, 13⟩, [], 2, 4, 2, rfl, (fun z hz => by rw [List.mem_singleton.mp hz]; exact Or.inr ⟨by decide, _, q_1077, by decide⟩), by decide, by decide, q_637, by decide, Or.inr ⟨rfl, dL_held_17⟩, by decide, dL_held_19, ki_2, dL_held_20⟩
  rw [if_neg e1] at h
  cases h
set_option maxRecDepth 100000 in
set_option maxHeartbeats 4000000 in
theorem crt_L_held (l : Launch) (θ : Th) (a0 : Nat) (a1 : Int32) (a2 : Int32) (a3 : Nat) (m : Mm) : CrtW l θ yL_held M_L_held hh_L_held cvI [.ref a0, .int a1, .int a2, .ref a3] m (F_L_held a0 a1 a2 a3 m) := by
  refine crtw_of 1 (by decide) rfl rfl (Nat.le_of_ble_eq_true rfl) (fun Z hμ ht => ?_)
  unfold F_L_held
  show GG Z _ _ 0 [some (.ref a0), some (.int a1), some (.int a2), some (.ref a3), none] [] m _
  refine g_aload_n (i := 3) dL_held_0 rfl rfl ?_
  refine g_iconst (v := 0) dL_held_1 ki_0 ?_
  refine g_aload_n (i := 0) dL_held_2 rfl rfl ?_
  refine g_iload_n (i := 1) dL_held_3 rfl rfl ?_
  refine g_iload_n (i := 2) dL_held_4 rfl rfl ?_
  refine g_callXC (hh := hh_L_held) ht rfl cl_X11 (crt_X11_held _ _ _ _ _ _) cw_X11_held (by decide) rfl q_1245 q_1246 q_1247 rfl rfl dL_held_5 hdk_L_held ?_
  intro r m1
  refine g_i2l dL_held_8 ?_
  refine g_lastore dL_held_9 ?_
  intro m2
  refine g_goto (tgt := 21) dL_held_10 (by decide) ?_
  refine g_iconst (v := 0) dL_held_21 ki_0 ?_
  exact g_ireturn rfl dL_held_22
set_option maxRecDepth 100000 in
set_option maxHeartbeats 4000000 in
theorem hdk_L_fits : ∀ (k : Nat) (v : Int32), hx_L_fits k = some v → HdOk M_L_fits hh_L_fits 4 k v := by
  intro k v h
  unfold hx_L_fits at h
  by_cases e1 : k = 1
  · rw [if_pos e1] at h
    cases h
    subst e1
    exact ⟨[], ⟨0, 9, 12, 13⟩, [], 1, 3, 1, rfl, (fun z hz => nomatch hz), by decide, by decide, q_637, by decide, Or.inl ⟨3, rfl, rfl, dL_fits_12⟩, by decide, dL_fits_13, ki_1, dL_fits_14⟩
  rw [if_neg e1] at h
  cases h
set_option maxRecDepth 100000 in
set_option maxHeartbeats 4000000 in
theorem crt_L_fits (l : Launch) (θ : Th) (a0 : Nat) (a1 : Int32) (a2 : Nat) (m : Mm) : CrtW l θ yL_fits M_L_fits hh_L_fits cvI [.ref a0, .int a1, .ref a2] m (F_L_fits a0 a1 a2 m) := by
  refine crtw_of 1 (by decide) rfl rfl (Nat.le_of_ble_eq_true rfl) (fun Z hμ ht => ?_)
  unfold F_L_fits
  show GG Z _ _ 0 [some (.ref a0), some (.int a1), some (.ref a2), none] [] m _
  refine g_aload_n (i := 2) dL_fits_0 rfl rfl ?_
  refine g_iconst (v := 0) dL_fits_1 ki_0 ?_
  refine g_aload_n (i := 0) dL_fits_2 rfl rfl ?_
  refine g_iload_n (i := 1) dL_fits_3 rfl rfl ?_
  refine g_callXC (hh := hh_L_fits) ht rfl cl_X11 (crt_X11_fits _ _ _ _ _) cw_X11_fits (by decide) rfl q_1252 q_1253 q_1254 rfl rfl dL_fits_4 hdk_L_fits ?_
  intro r m1
  refine g_i2l dL_fits_7 ?_
  refine g_lastore dL_fits_8 ?_
  intro m2
  refine g_goto (tgt := 15) dL_fits_9 (by decide) ?_
  refine g_iconst (v := 0) dL_fits_15 ki_0 ?_
  exact g_ireturn rfl dL_fits_16
set_option maxRecDepth 100000 in
set_option maxHeartbeats 4000000 in
theorem hdk_L_look : ∀ (k : Nat) (v : Int32), hx_L_look k = some v → HdOk M_L_look hh_L_look 4 k v := by
  intro k v h
  unfold hx_L_look at h
  by_cases e1 : k = 1
  · rw [if_pos e1] at h
    cases h
    subst e1
    exact ⟨[], ⟨0, 9, 12, 13⟩, [], 1, 3, 1, rfl, (fun z hz => nomatch hz), by decide, by decide, q_637, by decide, Or.inl ⟨3, rfl, rfl, dL_look_12⟩, by decide, dL_look_13, ki_1, dL_look_14⟩
  rw [if_neg e1] at h
  cases h
set_option maxRecDepth 100000 in
set_option maxHeartbeats 4000000 in
theorem crt_L_look (l : Launch) (θ : Th) (a0 : Nat) (a1 : Int32) (a2 : Nat) (m : Mm) : CrtW l θ yL_look M_L_look hh_L_look cvI [.ref a0, .int a1, .ref a2] m (F_L_look a0 a1 a2 m) := by
  refine crtw_of 1 (by decide) rfl rfl (Nat.le_of_ble_eq_true rfl) (fun Z hμ ht => ?_)
  unfold F_L_look
  show GG Z _ _ 0 [some (.ref a0), some (.int a1), some (.ref a2), none] [] m _
  refine g_aload_n (i := 2) dL_look_0 rfl rfl ?_
  refine g_iconst (v := 0) dL_look_1 ki_0 ?_
  refine g_aload_n (i := 0) dL_look_2 rfl rfl ?_
  refine g_iload_n (i := 1) dL_look_3 rfl rfl ?_
  refine g_callXC (hh := hh_L_look) ht rfl cl_X11 (crt_X11_look _ _ _ _ _) cw_X11_look (by decide) rfl q_1271 q_1272 q_1273 rfl rfl dL_look_4 hdk_L_look ?_
  intro r m1
  refine g_i2l dL_look_7 ?_
  refine g_lastore dL_look_8 ?_
  intro m2
  refine g_goto (tgt := 15) dL_look_9 (by decide) ?_
  refine g_iconst (v := 0) dL_look_15 ki_0 ?_
  exact g_ireturn rfl dL_look_16
set_option maxRecDepth 100000 in
set_option maxHeartbeats 4000000 in
theorem hdk_L_spelt : ∀ (k : Nat) (v : Int32), hx_L_spelt k = some v → HdOk M_L_spelt hh_L_spelt 4 k v := by
  intro k v h
  unfold hx_L_spelt at h
  by_cases e1 : k = 1
  · rw [if_pos e1] at h
    cases h
    subst e1
    exact ⟨[], ⟨0, 9, 12, 13⟩, [], 1, 3, 1, rfl, (fun z hz => nomatch hz), by decide, by decide, q_637, by decide, Or.inl ⟨3, rfl, rfl, dL_spelt_12⟩, by decide, dL_spelt_13, ki_1, dL_spelt_14⟩
  rw [if_neg e1] at h
  cases h
set_option maxRecDepth 100000 in
set_option maxHeartbeats 4000000 in
theorem crt_L_spelt (l : Launch) (θ : Th) (a0 : Nat) (a1 : Int32) (a2 : Nat) (m : Mm) : CrtW l θ yL_spelt M_L_spelt hh_L_spelt cvI [.ref a0, .int a1, .ref a2] m (F_L_spelt a0 a1 a2 m) := by
  refine crtw_of 1 (by decide) rfl rfl (Nat.le_of_ble_eq_true rfl) (fun Z hμ ht => ?_)
  unfold F_L_spelt
  show GG Z _ _ 0 [some (.ref a0), some (.int a1), some (.ref a2), none] [] m _
  refine g_aload_n (i := 2) dL_spelt_0 rfl rfl ?_
  refine g_iconst (v := 0) dL_spelt_1 ki_0 ?_
  refine g_aload_n (i := 0) dL_spelt_2 rfl rfl ?_
  refine g_iload_n (i := 1) dL_spelt_3 rfl rfl ?_
  refine g_callXC (hh := hh_L_spelt) ht rfl cl_X11 (crt_X11_spelt _ _ _ _ _) cw_X11_spelt (by decide) rfl q_1288 q_1289 q_1290 rfl rfl dL_spelt_4 hdk_L_spelt ?_
  intro r m1
  refine g_i2l dL_spelt_7 ?_
  refine g_lastore dL_spelt_8 ?_
  intro m2
  refine g_goto (tgt := 15) dL_spelt_9 (by decide) ?_
  refine g_iconst (v := 0) dL_spelt_15 ki_0 ?_
  exact g_ireturn rfl dL_spelt_16
set_option maxRecDepth 100000 in
set_option maxHeartbeats 4000000 in
theorem hdk_L_lore : ∀ (k : Nat) (v : Int32), hx_L_lore k = some v → HdOk M_L_lore hh_L_lore 4 k v := by
  intro k v h
  unfold hx_L_lore at h
  by_cases e0 : k = 0
  · rw [if_pos e0] at h
    cases h
    subst e0
    exact ⟨[], ⟨0, 9, 12, 31⟩, [], 1, 3, 1, rfl, (fun z hz => nomatch hz), by decide, by decide, q_1077, by decide, Or.inl ⟨3, rfl, rfl, dL_lore_12⟩, by decide, dL_lore_13, ki_1, dL_lore_14⟩
  rw [if_neg e0] at h
  cases h
set_option maxRecDepth 100000 in
set_option maxHeartbeats 4000000 in
theorem crt_L_lore (l : Launch) (θ : Th) (a0 : Nat) (a1 : Int32) (a2 : Nat) (m : Mm) : CrtW l θ yL_lore M_L_lore hh_L_lore cvI [.ref a0, .int a1, .ref a2] m (F_L_lore a0 a1 a2 m) := by
  refine crtw_of 1 (by decide) rfl rfl (Nat.le_of_ble_eq_true rfl) (fun Z hμ ht => ?_)
  unfold F_L_lore
  show GG Z _ _ 0 [some (.ref a0), some (.int a1), some (.ref a2), none] [] m _
  refine g_aload_n (i := 2) dL_lore_0 rfl rfl ?_
  refine g_iconst (v := 0) dL_lore_1 ki_0 ?_
  refine g_aload_n (i := 0) dL_lore_2 rfl rfl ?_
  refine g_iload_n (i := 1) dL_lore_3 rfl rfl ?_
  refine g_callXC (hh := hh_L_lore) ht rfl cl_X11 (crt_X11_lore _ _ _ _ _) cw_X11_lore (by decide) rfl q_1299 q_1300 q_1301 rfl rfl dL_lore_4 hdk_L_lore ?_
  intro r m1
  refine g_i2l dL_lore_7 ?_
  refine g_lastore dL_lore_8 ?_
  intro m2
  refine g_goto (tgt := 15) dL_lore_9 (by decide) ?_
  refine g_iconst (v := 0) dL_lore_15 ki_0 ?_
  exact g_ireturn rfl dL_lore_16
set_option maxRecDepth 100000 in
set_option maxHeartbeats 4000000 in
theorem hdk_L_behind : ∀ (k : Nat) (v : Int32), hx_L_behind k = some v → HdOk M_L_behind hh_L_behind 4 k v := by
  intro k v h
  unfold hx_L_behind at h
  by_cases e1 : k = 1
  · rw [if_pos e1] at h
    cases h
    subst e1
    exact ⟨[], ⟨0, 9, 12, 13⟩, [], 1, 3, 1, rfl, (fun z hz => nomatch hz), by decide, by decide, q_637, by decide, Or.inl ⟨3, rfl, rfl, dL_behind_12⟩, by decide, dL_behind_13, ki_1, dL_behind_14⟩
  rw [if_neg e1] at h
  cases h
set_option maxRecDepth 100000 in
set_option maxHeartbeats 4000000 in
theorem crt_L_behind (l : Launch) (θ : Th) (a0 : Nat) (a1 : Int32) (a2 : Nat) (m : Mm) : CrtW l θ yL_behind M_L_behind hh_L_behind cvI [.ref a0, .int a1, .ref a2] m (F_L_behind a0 a1 a2 m) := by
  refine crtw_of 1 (by decide) rfl rfl (Nat.le_of_ble_eq_true rfl) (fun Z hμ ht => ?_)
  unfold F_L_behind
  show GG Z _ _ 0 [some (.ref a0), some (.int a1), some (.ref a2), none] [] m _
  refine g_aload_n (i := 2) dL_behind_0 rfl rfl ?_
  refine g_iconst (v := 0) dL_behind_1 ki_0 ?_
  refine g_aload_n (i := 0) dL_behind_2 rfl rfl ?_
  refine g_iload_n (i := 1) dL_behind_3 rfl rfl ?_
  refine g_callXC (hh := hh_L_behind) ht rfl cl_X11 (crt_X11_behind _ _ _ _ _) cw_X11_behind (by decide) rfl q_1310 q_1311 q_1312 rfl rfl dL_behind_4 hdk_L_behind ?_
  intro r m1
  refine g_i2l dL_behind_7 ?_
  refine g_lastore dL_behind_8 ?_
  intro m2
  refine g_goto (tgt := 15) dL_behind_9 (by decide) ?_
  refine g_iconst (v := 0) dL_behind_15 ki_0 ?_
  exact g_ireturn rfl dL_behind_16
set_option maxRecDepth 100000 in
set_option maxHeartbeats 4000000 in
theorem hdk_L_storm : ∀ (k : Nat) (v : Int32), hx_L_storm k = some v → HdOk M_L_storm hh_L_storm 9 k v := by
  intro k v h
  unfold hx_L_storm at h
  by_cases e1 : k = 1
  · rw [if_pos e1] at h
    cases h
    subst e1
    exact ⟨[], ⟨0, 14, 17, 13⟩, [], 1, 6, 2, rfl, (fun z hz => nomatch hz), by decide, by decide, q_637, by decide, Or.inr ⟨rfl, dL_storm_17⟩, by decide, dL_storm_19, ki_1, dL_storm_20⟩
  rw [if_neg e1] at h
  cases h
set_option maxRecDepth 100000 in
set_option maxHeartbeats 4000000 in
theorem crt_L_storm (l : Launch) (θ : Th) (a0 : Nat) (a1 : Int32) (a2 : Int32) (a3 : Int32) (a4 : Int32) (a5 : Nat) (m : Mm) : CrtW l θ yL_storm M_L_storm hh_L_storm cvI [.ref a0, .int a1, .int a2, .int a3, .int a4, .ref a5] m (F_L_storm a0 a1 a2 a3 a4 a5 m) := by
  refine crtw_of 1 (by decide) rfl rfl (Nat.le_of_ble_eq_true rfl) (fun Z hμ ht => ?_)
  unfold F_L_storm
  show GG Z _ _ 0 [some (.ref a0), some (.int a1), some (.int a2), some (.int a3), some (.int a4), some (.ref a5), none] [] m _
  refine g_aload dL_storm_0 rfl ?_
  refine g_iconst (v := 0) dL_storm_2 ki_0 ?_
  refine g_aload_n (i := 0) dL_storm_3 rfl rfl ?_
  refine g_iload_n (i := 1) dL_storm_4 rfl rfl ?_
  refine g_iload_n (i := 2) dL_storm_5 rfl rfl ?_
  refine g_iload_n (i := 3) dL_storm_6 rfl rfl ?_
  refine g_iload dL_storm_7 rfl ?_
  refine g_callXC (hh := hh_L_storm) ht rfl cl_X11 (crt_X11_storm _ _ _ _ _ _ _ _) cw_X11_storm (by decide) rfl q_1321 q_1322 q_1323 rfl rfl dL_storm_9 hdk_L_storm ?_
  intro r m1
  refine g_i2l dL_storm_12 ?_
  refine g_lastore dL_storm_13 ?_
  intro m2
  refine g_goto (tgt := 21) dL_storm_14 (by decide) ?_
  refine g_iconst (v := 0) dL_storm_21 ki_0 ?_
  exact g_ireturn rfl dL_storm_22
set_option maxRecDepth 100000 in
set_option maxHeartbeats 4000000 in
theorem hdk_L_span : ∀ (k : Nat) (v : Int32), hx_L_span k = some v → HdOk M_L_span hh_L_span 13 k v := by
  intro k v h
  unfold hx_L_span at h
  by_cases e0 : k = 0
  · rw [if_pos e0] at h
    cases h
    subst e0
    exact ⟨[], ⟨0, 18, 21, 31⟩, [⟨0, 18, 25, 13⟩], 1, 8, 2, rfl, (fun z hz => nomatch hz), by decide, by decide, q_1077, by decide, Or.inr ⟨rfl, dL_span_21⟩, by decide, dL_span_23, ki_1, dL_span_24⟩
  rw [if_neg e0] at h
  by_cases e1 : k = 1
  · rw [if_pos e1] at h
    cases h
    subst e1
    exact ⟨[⟨0, 18, 21, 31⟩], ⟨0, 18, 25, 13⟩, [], 2, 8, 2, rfl, (fun z hz => by rw [List.mem_singleton.mp hz]; exact Or.inr ⟨by decide, _, q_1077, by decide⟩), by decide, by decide, q_637, by decide, Or.inr ⟨rfl, dL_span_25⟩, by decide, dL_span_27, ki_2, dL_span_28⟩
  rw [if_neg e1] at h
  cases h
set_option maxRecDepth 100000 in
set_option maxHeartbeats 4000000 in
theorem crt_L_span (l : Launch) (θ : Th) (a0 : Nat) (a1 : Int32) (a2 : Int32) (a3 : Int32) (a4 : Int32) (a5 : Int32) (a6 : Int32) (a7 : Nat) (m : Mm) : CrtW l θ yL_span M_L_span hh_L_span cvI [.ref a0, .int a1, .int a2, .int a3, .int a4, .int a5, .int a6, .ref a7] m (F_L_span a0 a1 a2 a3 a4 a5 a6 a7 m) := by
  refine crtw_of 1 (by decide) rfl rfl (Nat.le_of_ble_eq_true rfl) (fun Z hμ ht => ?_)
  unfold F_L_span
  show GG Z _ _ 0 [some (.ref a0), some (.int a1), some (.int a2), some (.int a3), some (.int a4), some (.int a5), some (.int a6), some (.ref a7), none] [] m _
  refine g_aload dL_span_0 rfl ?_
  refine g_iconst (v := 0) dL_span_2 ki_0 ?_
  refine g_aload_n (i := 0) dL_span_3 rfl rfl ?_
  refine g_iload_n (i := 1) dL_span_4 rfl rfl ?_
  refine g_iload_n (i := 2) dL_span_5 rfl rfl ?_
  refine g_iload_n (i := 3) dL_span_6 rfl rfl ?_
  refine g_iload dL_span_7 rfl ?_
  refine g_iload dL_span_9 rfl ?_
  refine g_iload dL_span_11 rfl ?_
  refine g_callXC (hh := hh_L_span) ht rfl cl_X11 (crt_X11_span _ _ _ _ _ _ _ _ _ _) cw_X11_span (by decide) rfl q_1357 q_1358 q_1359 rfl rfl dL_span_13 hdk_L_span ?_
  intro r m1
  refine g_i2l dL_span_16 ?_
  refine g_lastore dL_span_17 ?_
  intro m2
  refine g_goto (tgt := 29) dL_span_18 (by decide) ?_
  refine g_iconst (v := 0) dL_span_29 ki_0 ?_
  exact g_ireturn rfl dL_span_30
