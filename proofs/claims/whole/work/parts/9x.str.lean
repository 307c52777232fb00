/-! TEXT CONSTANTS at the law's start *-/
def zTm : Nat → Term
  | 0 => .string "WagerQuiz" 392
  | _ => .string "WagerQuiz" 400
theorem str_0 {s : State} {args : Array Value} (h : (Jvm.Cond.and given_1 narrow_1).before args s = true) {A : Nat → Prop} (hA : ∀ a : Nat, a < s.heap.size → ¬ A a) : ∃ adK adV : Nat → Nat, vk_S 2 [6, 3] [[112, 104, 97, 115, 101, 32], [59, 32, 112]] adK adV A s s.heap ∧ ∀ i : Nat, i < 2 → (zTm i).eval args s none [] s = some (.ref (adK i)) := by
  have hs := flat_of_before _ h
  have c2 : ∀ {P : Nat → Prop}, P 0 → P 1 → ∀ i, i < 2 → P i := fun h0 h1 i hi => by
    have : i = 0 ∨ i = 1 := by omega
    rcases this with g | g <;> subst g
    · exact h0
    · exact h1
  refine vk_Sof (tm := zTm) (c2 (by decide) (by decide)) (c2 (hs _ (by decide +kernel)) (hs _ (by decide +kernel))) (c2 (hs _ (by decide +kernel)) (hs _ (by decide +kernel))) (c2 (hs _ (by decide +kernel)) (hs _ (by decide +kernel))) (c2 (hs _ (by decide +kernel)) (hs _ (by decide +kernel))) (c2 (fun j hj => ?_) (fun j hj => ?_)) (fun i j hi hj hij => ?_) hA
  · have hj : j < 6 := hj
    have : j = 0 ∨ j = 1 ∨ j = 2 ∨ j = 3 ∨ j = 4 ∨ j = 5 := by omega
    rcases this with g | g | g | g | g | g <;> subst g <;> exact hs _ (by decide +kernel)
  · have hj : j < 3 := hj
    have : j = 0 ∨ j = 1 ∨ j = 2 := by omega
    rcases this with g | g | g <;> subst g <;> exact hs _ (by decide +kernel)
  · have : (i = 0 ∧ j = 1) ∨ (i = 1 ∧ j = 0) := by omega
    rcases this with ⟨rfl, rfl⟩ | ⟨rfl, rfl⟩
    · exact Or.inl (hs _ (by decide +kernel))
    · exact Or.inr (hs _ (by decide +kernel))
