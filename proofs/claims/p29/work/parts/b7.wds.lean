/-! THE OLD CELLS' ints *-/
def w0 (xs : Nat → Int32) : zI
  | 0 => xs
  | 1 => fun j => if j = 2 then 100 else if j < 2 then 30 else 0
  | _ => fun _ => 0
theorem st_w (xs : Nat → Int32) : w0 xs 1 0 = 30 ∧ w0 xs 1 1 = 30 ∧ w0 xs 1 2 = 100 := ⟨rfl, rfl, rfl⟩
/-! THE TABLES' WORDS at the law's start -/
theorem xs_ok {s : State} {args : Array Value} (h : ∀ w ∈ lw_tbl, w.before args s = true) : ∀ w ∈ zeBT, w.before args s = true := by
  intro w hw
  rcases List.mem_append.mp (List.mem_filter.mp hw).1 with g | g
  · have g : w ∈ ([] : List Cond) := g
    exact absurd g List.not_mem_nil
  · exact h w g
