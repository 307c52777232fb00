/-! NUMBERS IN TEXT: appended *-/
def dgl (n d : Nat) : List Int32 := (List.range d).map (fun j => nn (48 + n / 10 ^ (d - 1 - j) % 10))
theorem dgl_l (n d : Nat) : (dgl n d).length = d := by unfold dgl; rw [List.length_map, List.length_range]
theorem dgl_g (n d j : Nat) (h : j < d) : (dgl n d)[j]? = some (nn (48 + n / 10 ^ (d - 1 - j) % 10)) := by
  unfold dgl
  rw [List.getElem?_map, List.getElem?_range h]; rfl
