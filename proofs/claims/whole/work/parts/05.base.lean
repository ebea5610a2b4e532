/-! the words of the tables that any method may lean on -/
/-- the words that any method of ours may lean on: those of the tables that the tables alone decide -/
def mW0 : List Cond := lw_tbl.filter goodWord
theorem w0_in {w : Cond} (i : Nat) (h : lw_tbl[i]? = some w) (g : goodWord w = true) : w ∈ mW0 := List.mem_filter.mpr ⟨List.mem_of_getElem? h, g⟩
theorem w0_good : GoodIn mW0 mW0 := fun w h => ⟨h, good_of_word (List.mem_filter.mp h).2⟩
theorem w0_of {ws : List Cond} (h : ∀ w ∈ ws, w ∈ mW0) : GoodIn mW0 ws := fun w hw => w0_good w (h w hw)
def mEN : Nat → String
  | 0 => "java/util/NoSuchElementException"
  | 1 => "java/lang/IllegalArgumentException"
  | _ => "java/lang/IllegalStateException"
theorem in_of {ws : List Cond} (ps : List Nat) (h : ws = ps.filterMap (fun i => lw_tbl[i]?)) (g : ws.all goodWord = true) : ∀ w ∈ ws, w ∈ mW0 := by
  intro w hw
  have hg := List.all_eq_true.mp g w hw
  rw [h] at hw
  obtain ⟨i, -, hi⟩ := List.mem_filterMap.mp hw
  exact List.mem_filter.mpr ⟨List.mem_of_getElem? hi, hg⟩
