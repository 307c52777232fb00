/-! STATICS at the law's start *-/
abbrev zS1 : Term := .static "WagerQuiz" "SETTING_TOPS" "[I"
theorem sta_1 {s : State} {args : Array Value} (xs : Nat → Int32) (h : (Jvm.Cond.and given_1 narrow_1).before args s = true) {A : Nat → Prop} (hA : ∀ a : Nat, a < s.heap.size → ¬ A a) : ∃ t : Nat, zS1.eval args s none [] s = some (.ref t) ∧ va_T .int t 3 (fun j => .int (w0 xs 1 j)) A s s.heap := by
  have hs := flat_of_before _ h
  refine va_Tof (by decide) (hs _ (by decide +kernel)) (va_eqt (hs _ (by decide +kernel))) (fun j hj => ?_) hA
  have : j = 0 ∨ j = 1 ∨ j = 2 := by omega
  rcases this with g | g | g <;> subst g
  · exact va_eqt (hs (.eq (.elem zS1 (.int 0)) (.int 30)) (by decide +kernel))
  · exact va_eqt (hs (.eq (.elem zS1 (.int 1)) (.int 30)) (by decide +kernel))
  · exact va_eqt (hs (.eq (.elem zS1 (.int 2)) (.int 100)) (by decide +kernel))
