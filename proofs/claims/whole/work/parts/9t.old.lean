/-! THE OLD CELLS' ints -/
def w0 (xs : Nat → Int32) : zI
  | 0 => xs
  | 1 => fun j => if j = 2 then 100 else if j < 2 then 30 else 0
  | 3 => fun j => if j = 0 then 32 else 0
  | 5 => fun j => if j = 0 then 112 else if j = 1 then 104 else if j = 2 then 97 else if j = 3 then 115 else if j = 4 then 101 else if j = 5 then 32 else 0
  | 7 => fun j => if j = 0 then 59 else if j = 1 then 32 else if j = 2 then 112 else 0
  | _ => fun _ => 0
theorem OLD_w (xs : Nat → Int32) : OLD (w0 xs) := by
  refine ⟨rfl, rfl, rfl, ?_, ?_, ?_⟩
  · intro j hj
    have : j = 0 ∨ j = 1 ∨ j = 2 ∨ j = 3 ∨ j = 4 ∨ j = 5 := by omega
    rcases this with g | g | g | g | g | g <;> subst g <;> rfl
  · intro j hj
    have : j = 0 ∨ j = 1 ∨ j = 2 := by omega
    rcases this with g | g | g <;> subst g <;> rfl
  · intro j hj
    have : j = 0 := by omega
    subst this; rfl
theorem st_w (xs : Nat → Int32) : w0 xs 1 0 = 30 ∧ w0 xs 1 1 = 30 ∧ w0 xs 1 2 = 100 := ⟨rfl, rfl, rfl⟩
theorem fit_w (xs : Nat → Int32) (k : Nat) (hk : k = 3 ∨ k = 5 ∨ k = 7) (j : Nat) : fits .byte (.int (w0 xs k j)) = true := by
  have h0 : fits .byte (.int 0) = true := by decide +kernel
  have h3 : fits .byte (.int 32) = true := by decide +kernel
  have h5 : ∀ j : Fin 6, fits .byte (.int (w0 (fun _ => 0) 5 j.1)) = true := by decide +kernel
  have h7 : ∀ j : Fin 3, fits .byte (.int (w0 (fun _ => 0) 7 j.1)) = true := by decide +kernel
  rcases hk with g | g | g <;> subst g
  · show fits .byte (.int (if j = 0 then 32 else 0)) = true
    by_cases q : j = 0
    · rw [if_pos q]; exact h3
    · rw [if_neg q]; exact h0
  · by_cases q : j < 6
    · exact h5 ⟨j, q⟩
    · show fits .byte (.int (if j = 0 then 112 else if j = 1 then 104 else if j = 2 then 97 else if j = 3 then 115 else if j = 4 then 101 else if j = 5 then 32 else 0)) = true
      rw [if_neg (by omega), if_neg (by omega), if_neg (by omega), if_neg (by omega), if_neg (by omega), if_neg (by omega)]; exact h0
  · by_cases q : j < 3
    · exact h7 ⟨j, q⟩
    · show fits .byte (.int (if j = 0 then 59 else if j = 1 then 32 else if j = 2 then 112 else 0)) = true
      rw [if_neg (by omega), if_neg (by omega), if_neg (by omega)]; exact h0
