/-! TEXT CONSTANTS at the law's start -/
def zTm : Nat → Term
  | 0 => .string "WagerQuiz" 389
  | 1 => .string "WagerQuiz" 399
  | _ => .string "WagerQuiz" 401
theorem str_0 {s : State} {args : Array Value} (h : (Jvm.Cond.and given_1 narrow_1).before args s = true) {A : Nat → Prop} (hA : ∀ a : Nat, a < s.heap.size → ¬ A a) : ∃ adK adV : Nat → Nat, vk_S 3 [6, 3, 1] [[112, 104, 97, 115, 101, 32], [59, 32, 112], [32]] adK adV A s s.heap ∧ ∀ i : Nat, i < 3 → (zTm i).eval args s none [] s = some (.ref (adK i)) := by
  have hs := flat_of_before _ h
  have c2 : ∀ {P : Nat → Prop}, P 0 → P 1 → P 2 → ∀ i, i < 3 → P i := fun h0 h1 h2 i hi => by
    have : i = 0 ∨ i = 1 ∨ i = 2 := by omega
    rcases this with g | g | g <;> subst g
    · exact h0
    · exact h1
    · exact h2
  refine vk_Sof (tm := zTm) (c2 (by decide) (by decide) (by decide)) (c2 (hs _ (by decide +kernel)) (hs _ (by decide +kernel)) (hs _ (by decide +kernel))) (c2 (hs _ (by decide +kernel)) (hs _ (by decide +kernel)) (hs _ (by decide +kernel))) (c2 (hs _ (by decide +kernel)) (hs _ (by decide +kernel)) (hs _ (by decide +kernel))) (c2 (hs _ (by decide +kernel)) (hs _ (by decide +kernel)) (hs _ (by decide +kernel))) (c2 (fun j hj => ?_) (fun j hj => ?_) (fun j hj => ?_)) (fun i j hi hj hij => ?_) hA
  · have hj : j < 6 := hj
    have : j = 0 ∨ j = 1 ∨ j = 2 ∨ j = 3 ∨ j = 4 ∨ j = 5 := by omega
    rcases this with g | g | g | g | g | g <;> subst g <;> exact hs _ (by decide +kernel)
  · have hj : j < 3 := hj
    have : j = 0 ∨ j = 1 ∨ j = 2 := by omega
    rcases this with g | g | g <;> subst g <;> exact hs _ (by decide +kernel)
  · have hj : j < 1 := hj
    have : j = 0 := by omega
    subst this; exact hs _ (by decide +kernel)
  · have : (i = 0 ∧ j = 1) ∨ (i = 1 ∧ j = 0) ∨ (i = 0 ∧ j = 2) ∨ (i = 2 ∧ j = 0) ∨ (i = 1 ∧ j = 2) ∨ (i = 2 ∧ j = 1) := by omega
    rcases this with ⟨rfl, rfl⟩ | ⟨rfl, rfl⟩ | ⟨rfl, rfl⟩ | ⟨rfl, rfl⟩ | ⟨rfl, rfl⟩ | ⟨rfl, rfl⟩
    · exact Or.inl (hs _ (by decide +kernel))
    · exact Or.inr (hs _ (by decide +kernel))
    · exact Or.inl (hs _ (by decide +kernel))
    · exact Or.inr (hs _ (by decide +kernel))
    · exact Or.inl (hs _ (by decide +kernel))
    · exact Or.inr (hs _ (by decide +kernel))
