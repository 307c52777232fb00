/-! THE DIGIT TABLES at the law's start: their words stand one after another *-/
theorem dg_t0 : ∀ j : Fin 10, (flatC (Jvm.Cond.and given_1 narrow_1))[121 + j.1]? = some (Cond.eq (.elem zS2 (.int (Int32.ofNat (0 + j.1)))) (.int (Int32.ofNat (48 + (0 + j.1) / 10)))) := by decide +kernel
theorem dg_t1 : ∀ j : Fin 10, (flatC (Jvm.Cond.and given_1 narrow_1))[131 + j.1]? = some (Cond.eq (.elem zS2 (.int (Int32.ofNat (10 + j.1)))) (.int (Int32.ofNat (48 + (10 + j.1) / 10)))) := by decide +kernel
theorem dg_t2 : ∀ j : Fin 10, (flatC (Jvm.Cond.and given_1 narrow_1))[141 + j.1]? = some (Cond.eq (.elem zS2 (.int (Int32.ofNat (20 + j.1)))) (.int (Int32.ofNat (48 + (20 + j.1) / 10)))) := by decide +kernel
theorem dg_t3 : ∀ j : Fin 10, (flatC (Jvm.Cond.and given_1 narrow_1))[151 + j.1]? = some (Cond.eq (.elem zS2 (.int (Int32.ofNat (30 + j.1)))) (.int (Int32.ofNat (48 + (30 + j.1) / 10)))) := by decide +kernel
theorem dg_t4 : ∀ j : Fin 10, (flatC (Jvm.Cond.and given_1 narrow_1))[161 + j.1]? = some (Cond.eq (.elem zS2 (.int (Int32.ofNat (40 + j.1)))) (.int (Int32.ofNat (48 + (40 + j.1) / 10)))) := by decide +kernel
theorem dg_t5 : ∀ j : Fin 10, (flatC (Jvm.Cond.and given_1 narrow_1))[171 + j.1]? = some (Cond.eq (.elem zS2 (.int (Int32.ofNat (50 + j.1)))) (.int (Int32.ofNat (48 + (50 + j.1) / 10)))) := by decide +kernel
theorem dg_t6 : ∀ j : Fin 10, (flatC (Jvm.Cond.and given_1 narrow_1))[181 + j.1]? = some (Cond.eq (.elem zS2 (.int (Int32.ofNat (60 + j.1)))) (.int (Int32.ofNat (48 + (60 + j.1) / 10)))) := by decide +kernel
theorem dg_t7 : ∀ j : Fin 10, (flatC (Jvm.Cond.and given_1 narrow_1))[191 + j.1]? = some (Cond.eq (.elem zS2 (.int (Int32.ofNat (70 + j.1)))) (.int (Int32.ofNat (48 + (70 + j.1) / 10)))) := by decide +kernel
theorem dg_t8 : ∀ j : Fin 10, (flatC (Jvm.Cond.and given_1 narrow_1))[201 + j.1]? = some (Cond.eq (.elem zS2 (.int (Int32.ofNat (80 + j.1)))) (.int (Int32.ofNat (48 + (80 + j.1) / 10)))) := by decide +kernel
theorem dg_t9 : ∀ j : Fin 10, (flatC (Jvm.Cond.and given_1 narrow_1))[211 + j.1]? = some (Cond.eq (.elem zS2 (.int (Int32.ofNat (90 + j.1)))) (.int (Int32.ofNat (48 + (90 + j.1) / 10)))) := by decide +kernel
theorem dg_o0 : ∀ j : Fin 10, (flatC (Jvm.Cond.and given_1 narrow_1))[18 + j.1]? = some (Cond.eq (.elem zS3 (.int (Int32.ofNat (0 + j.1)))) (.int (Int32.ofNat (48 + (0 + j.1) % 10)))) := by decide +kernel
theorem dg_o1 : ∀ j : Fin 10, (flatC (Jvm.Cond.and given_1 narrow_1))[28 + j.1]? = some (Cond.eq (.elem zS3 (.int (Int32.ofNat (10 + j.1)))) (.int (Int32.ofNat (48 + (10 + j.1) % 10)))) := by decide +kernel
theorem dg_o2 : ∀ j : Fin 10, (flatC (Jvm.Cond.and given_1 narrow_1))[38 + j.1]? = some (Cond.eq (.elem zS3 (.int (Int32.ofNat (20 + j.1)))) (.int (Int32.ofNat (48 + (20 + j.1) % 10)))) := by decide +kernel
theorem dg_o3 : ∀ j : Fin 10, (flatC (Jvm.Cond.and given_1 narrow_1))[48 + j.1]? = some (Cond.eq (.elem zS3 (.int (Int32.ofNat (30 + j.1)))) (.int (Int32.ofNat (48 + (30 + j.1) % 10)))) := by decide +kernel
theorem dg_o4 : ∀ j : Fin 10, (flatC (Jvm.Cond.and given_1 narrow_1))[58 + j.1]? = some (Cond.eq (.elem zS3 (.int (Int32.ofNat (40 + j.1)))) (.int (Int32.ofNat (48 + (40 + j.1) % 10)))) := by decide +kernel
theorem dg_o5 : ∀ j : Fin 10, (flatC (Jvm.Cond.and given_1 narrow_1))[68 + j.1]? = some (Cond.eq (.elem zS3 (.int (Int32.ofNat (50 + j.1)))) (.int (Int32.ofNat (48 + (50 + j.1) % 10)))) := by decide +kernel
theorem dg_o6 : ∀ j : Fin 10, (flatC (Jvm.Cond.and given_1 narrow_1))[78 + j.1]? = some (Cond.eq (.elem zS3 (.int (Int32.ofNat (60 + j.1)))) (.int (Int32.ofNat (48 + (60 + j.1) % 10)))) := by decide +kernel
theorem dg_o7 : ∀ j : Fin 10, (flatC (Jvm.Cond.and given_1 narrow_1))[88 + j.1]? = some (Cond.eq (.elem zS3 (.int (Int32.ofNat (70 + j.1)))) (.int (Int32.ofNat (48 + (70 + j.1) % 10)))) := by decide +kernel
theorem dg_o8 : ∀ j : Fin 10, (flatC (Jvm.Cond.and given_1 narrow_1))[98 + j.1]? = some (Cond.eq (.elem zS3 (.int (Int32.ofNat (80 + j.1)))) (.int (Int32.ofNat (48 + (80 + j.1) % 10)))) := by decide +kernel
theorem dg_o9 : ∀ j : Fin 10, (flatC (Jvm.Cond.and given_1 narrow_1))[108 + j.1]? = some (Cond.eq (.elem zS3 (.int (Int32.ofNat (90 + j.1)))) (.int (Int32.ofNat (48 + (90 + j.1) % 10)))) := by decide +kernel
theorem dg_go {L : List Cond} {f : Nat → Cond} {j : Nat} (k b : Nat) (hh : ∀ i : Fin 10, L[b + i.1]? = some (f (k + i.1))) (h1 : k ≤ j) (h2 : j < k + 10) : f j ∈ L := by
  obtain ⟨i, rfl⟩ : ∃ i, j = k + i := ⟨j - k, by omega⟩
  exact List.mem_of_getElem? (hh ⟨i, by omega⟩)
theorem dg_2 (j : Nat) (hj : j < 100) : Cond.eq (.elem zS2 (.int (Int32.ofNat j))) (.int (Int32.ofNat (48 + j / 10))) ∈ flatC (Jvm.Cond.and given_1 narrow_1) := by
  by_cases g0 : j < 10
  · exact dg_go (f := fun j => Cond.eq (.elem zS2 (.int (Int32.ofNat j))) (.int (Int32.ofNat (48 + j / 10)))) 0 121 dg_t0 (by omega) (by omega)
  by_cases g1 : j < 20
  · exact dg_go (f := fun j => Cond.eq (.elem zS2 (.int (Int32.ofNat j))) (.int (Int32.ofNat (48 + j / 10)))) 10 131 dg_t1 (by omega) (by omega)
  by_cases g2 : j < 30
  · exact dg_go (f := fun j => Cond.eq (.elem zS2 (.int (Int32.ofNat j))) (.int (Int32.ofNat (48 + j / 10)))) 20 141 dg_t2 (by omega) (by omega)
  by_cases g3 : j < 40
  · exact dg_go (f := fun j => Cond.eq (.elem zS2 (.int (Int32.ofNat j))) (.int (Int32.ofNat (48 + j / 10)))) 30 151 dg_t3 (by omega) (by omega)
  by_cases g4 : j < 50
  · exact dg_go (f := fun j => Cond.eq (.elem zS2 (.int (Int32.ofNat j))) (.int (Int32.ofNat (48 + j / 10)))) 40 161 dg_t4 (by omega) (by omega)
  by_cases g5 : j < 60
  · exact dg_go (f := fun j => Cond.eq (.elem zS2 (.int (Int32.ofNat j))) (.int (Int32.ofNat (48 + j / 10)))) 50 171 dg_t5 (by omega) (by omega)
  by_cases g6 : j < 70
  · exact dg_go (f := fun j => Cond.eq (.elem zS2 (.int (Int32.ofNat j))) (.int (Int32.ofNat (48 + j / 10)))) 60 181 dg_t6 (by omega) (by omega)
  by_cases g7 : j < 80
  · exact dg_go (f := fun j => Cond.eq (.elem zS2 (.int (Int32.ofNat j))) (.int (Int32.ofNat (48 + j / 10)))) 70 191 dg_t7 (by omega) (by omega)
  by_cases g8 : j < 90
  · exact dg_go (f := fun j => Cond.eq (.elem zS2 (.int (Int32.ofNat j))) (.int (Int32.ofNat (48 + j / 10)))) 80 201 dg_t8 (by omega) (by omega)
  exact dg_go (f := fun j => Cond.eq (.elem zS2 (.int (Int32.ofNat j))) (.int (Int32.ofNat (48 + j / 10)))) 90 211 dg_t9 (by omega) (by omega)
theorem dg_3 (j : Nat) (hj : j < 100) : Cond.eq (.elem zS3 (.int (Int32.ofNat j))) (.int (Int32.ofNat (48 + j % 10))) ∈ flatC (Jvm.Cond.and given_1 narrow_1) := by
  by_cases g0 : j < 10
  · exact dg_go (f := fun j => Cond.eq (.elem zS3 (.int (Int32.ofNat j))) (.int (Int32.ofNat (48 + j % 10)))) 0 18 dg_o0 (by omega) (by omega)
  by_cases g1 : j < 20
  · exact dg_go (f := fun j => Cond.eq (.elem zS3 (.int (Int32.ofNat j))) (.int (Int32.ofNat (48 + j % 10)))) 10 28 dg_o1 (by omega) (by omega)
  by_cases g2 : j < 30
  · exact dg_go (f := fun j => Cond.eq (.elem zS3 (.int (Int32.ofNat j))) (.int (Int32.ofNat (48 + j % 10)))) 20 38 dg_o2 (by omega) (by omega)
  by_cases g3 : j < 40
  · exact dg_go (f := fun j => Cond.eq (.elem zS3 (.int (Int32.ofNat j))) (.int (Int32.ofNat (48 + j % 10)))) 30 48 dg_o3 (by omega) (by omega)
  by_cases g4 : j < 50
  · exact dg_go (f := fun j => Cond.eq (.elem zS3 (.int (Int32.ofNat j))) (.int (Int32.ofNat (48 + j % 10)))) 40 58 dg_o4 (by omega) (by omega)
  by_cases g5 : j < 60
  · exact dg_go (f := fun j => Cond.eq (.elem zS3 (.int (Int32.ofNat j))) (.int (Int32.ofNat (48 + j % 10)))) 50 68 dg_o5 (by omega) (by omega)
  by_cases g6 : j < 70
  · exact dg_go (f := fun j => Cond.eq (.elem zS3 (.int (Int32.ofNat j))) (.int (Int32.ofNat (48 + j % 10)))) 60 78 dg_o6 (by omega) (by omega)
  by_cases g7 : j < 80
  · exact dg_go (f := fun j => Cond.eq (.elem zS3 (.int (Int32.ofNat j))) (.int (Int32.ofNat (48 + j % 10)))) 70 88 dg_o7 (by omega) (by omega)
  by_cases g8 : j < 90
  · exact dg_go (f := fun j => Cond.eq (.elem zS3 (.int (Int32.ofNat j))) (.int (Int32.ofNat (48 + j % 10)))) 80 98 dg_o8 (by omega) (by omega)
  exact dg_go (f := fun j => Cond.eq (.elem zS3 (.int (Int32.ofNat j))) (.int (Int32.ofNat (48 + j % 10)))) 90 108 dg_o9 (by omega) (by omega)
theorem sta_2 {s : State} {args : Array Value} (xs : Nat → Int32) (h : (Jvm.Cond.and given_1 narrow_1).before args s = true) {A : Nat → Prop} (hA : ∀ a : Nat, a < s.heap.size → ¬ A a) : ∃ t : Nat, zS2.eval args s none [] s = some (.ref t) ∧ va_T .byte t 100 (fun j => .int (w0 xs 2 j)) A s s.heap := by
  have hs := flat_of_before _ h
  refine va_Tof (by decide) (hs _ (by decide +kernel)) (va_eqt (hs _ (by decide +kernel))) (fun j hj => ?_) hA
  refine (va_eqt (hs _ (dg_2 j hj))).trans ?_
  show some (Value.int (nn (48 + j / 10))) = some (.int (if j < 100 then nn (48 + j / 10) else 0))
  rw [if_pos hj]
theorem sta_3 {s : State} {args : Array Value} (xs : Nat → Int32) (h : (Jvm.Cond.and given_1 narrow_1).before args s = true) {A : Nat → Prop} (hA : ∀ a : Nat, a < s.heap.size → ¬ A a) : ∃ t : Nat, zS3.eval args s none [] s = some (.ref t) ∧ va_T .byte t 100 (fun j => .int (w0 xs 3 j)) A s s.heap := by
  have hs := flat_of_before _ h
  refine va_Tof (by decide) (hs _ (by decide +kernel)) (va_eqt (hs _ (by decide +kernel))) (fun j hj => ?_) hA
  refine (va_eqt (hs _ (dg_3 j hj))).trans ?_
  show some (Value.int (nn (48 + j % 10))) = some (.int (if j < 100 then nn (48 + j % 10) else 0))
  rw [if_pos hj]
