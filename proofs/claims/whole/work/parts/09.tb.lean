def TB : List Cond := lw_tbl.filter goodWord
theorem TB_in {w : Cond} (h : w ∈ lw_tbl) (hg : goodWord w = true) : w ∈ TB := List.mem_filter.mpr ⟨h, hg⟩
theorem TB_good : ∀ w ∈ TB, (w.onTables && w.keeps) = true ∨ ∃ ty, w = .arrayClass ty := fun w h => good_of_word (List.mem_filter.mp h).2
theorem TB_gi (c : Cond) : GoodIn (c :: TB) TB := fun w h => ⟨List.mem_cons_of_mem _ h, TB_good w h⟩
/-- words of nest mates -/
def isNe (w : Cond) : Bool := match w with
  | .fieldLinkNest .. => true
  | .methodLinkNest .. => true
  | _ => false
def NB : List Cond := tables_1.filter isNe
theorem NB_in {w : Cond} (h : w ∈ tables_1) (hg : isNe w = true) : w ∈ NB := List.mem_filter.mpr ⟨h, hg⟩
