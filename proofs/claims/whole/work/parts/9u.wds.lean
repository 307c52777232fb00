/-! THE TABLES' WORDS at the law's start -/
theorem xs_ok {s : State} {args : Array Value} (h : ∀ w ∈ lw_tbl, w.before args s = true) : ∀ w ∈ zeBT, w.before args s = true := by
  intro w hw
  rcases List.mem_append.mp (List.mem_filter.mp hw).1 with g | g
  · have g : w ∈ ([] : List Cond) := g
    exact absurd g List.not_mem_nil
  · exact h w g
