/-! THE DIGIT TABLES at the law's start: their words stand one after another *-/
abbrev zS2 : Term := .static "java/lang/Integer" "DigitTens" "[B"
abbrev zS3 : Term := .static "java/lang/Integer" "DigitOnes" "[B"
theorem dg_t0 : ∀ j : Fin 10, (flat (Jvm.Cond.and given_1 narrow_1))[121 + j.1]? = some (Cond.eq (.elem zS2 (.int (Int32.ofNat (0 + j.1)))) (.int (Int32.ofNat (48 + (0 + j.1) / 10)))) := by decide +kernel
theorem dg_t1 : ∀ j : Fin 10, (flat (Jvm.Cond.and given_1 narrow_1))[131 + j.1]? = some (Cond.eq (.elem zS2 (.int (Int32.ofNat (10 + j.1)))) (.int (Int32.ofNat (48 + (10 + j.1) / 10)))) := by decide +kernel
theorem dg_t2 : ∀ j : Fin 10, (flat (Jvm.Cond.and given_1 narrow_1))[141 + j.1]? = some (Cond.eq (.elem zS2 (.int (Int32.ofNat (20 + j.1)))) (.int (Int32.ofNat (48 + (20 + j.1) / 10)))) := by decide +kernel
theorem dg_t3 : ∀ j : Fin 10, (flat (Jvm.Cond.and given_1 narrow_1))[151 + j.1]? = some (Cond.eq (.elem zS2 (.int (Int32.ofNat (30 + j.1)))) (.int (Int32.ofNat (48 + (30 + j.1) / 10)))) := by decide +kernel
theorem dg_t4 : ∀ j : Fin 10, (flat (Jvm.Cond.and given_1 narrow_1))[161 + j.1]? = some (Cond.eq (.elem zS2 (.int (Int32.ofNat (40 + j.1)))) (.int (Int32.ofNat (48 + (40 + j.1) / 10)))) := by decide +kernel
theorem dg_t5 : ∀ j : Fin 10, (flat (Jvm.Cond.and given_1 narrow_1))[171 + j.1]? = some (Cond.eq (.elem zS2 (.int (Int32.ofNat (50 + j.1)))) (.int (Int32.ofNat (48 + (50 + j.1) / 10)))) := by decide +kernel
theorem dg_t6 : ∀ j : Fin 10, (flat (Jvm.Cond.and given_1 narrow_1))[181 + j.1]? = some (Cond.eq (.elem zS2 (.int (Int32.ofNat (60 + j.1)))) (.int (Int32.ofNat (48 + (60 + j.1) / 10)))) := by decide +kernel
theorem dg_t7 : ∀ j : Fin 10, (flat (Jvm.Cond.and given_1 narrow_1))[191 + j.1]? = some (Cond.eq (.elem zS2 (.int (Int32.ofNat (70 + j.1)))) (.int (Int32.ofNat (48 + (70 + j.1) / 10)))) := by decide +kernel
theorem dg_t8 : ∀ j : Fin 10, (flat (Jvm.Cond.and given_1 narrow_1))[201 + j.1]? = some (Cond.eq (.elem zS2 (.int (Int32.ofNat (80 + j.1)))) (.int (Int32.ofNat (48 + (80 + j.1) / 10)))) := by decide +kernel
theorem dg_t9 : ∀ j : Fin 10, (flat (Jvm.Cond.and given_1 narrow_1))[211 + j.1]? = some (Cond.eq (.elem zS2 (.int (Int32.ofNat (90 + j.1)))) (.int (Int32.ofNat (48 + (90 + j.1) / 10)))) := by decide +kernel
theorem dg_o0 : ∀ j : Fin 10, (flat (Jvm.Cond.and given_1 narrow_1))[18 + j.1]? = some (Cond.eq (.elem zS3 (.int (Int32.ofNat (0 + j.1)))) (.int (Int32.ofNat (48 + (0 + j.1) % 10)))) := by decide +kernel
theorem dg_o1 : ∀ j : Fin 10, (flat (Jvm.Cond.and given_1 narrow_1))[28 + j.1]? = some (Cond.eq (.elem zS3 (.int (Int32.ofNat (10 + j.1)))) (.int (Int32.ofNat (48 + (10 + j.1) % 10)))) := by decide +kernel
theorem dg_o2 : ∀ j : Fin 10, (flat (Jvm.Cond.and given_1 narrow_1))[38 + j.1]? = some (Cond.eq (.elem zS3 (.int (Int32.ofNat (20 + j.1)))) (.int (Int32.ofNat (48 + (20 + j.1) % 10)))) := by decide +kernel
theorem dg_o3 : ∀ j : Fin 10, (flat (Jvm.Cond.and given_1 narrow_1))[48 + j.1]? = some (Cond.eq (.elem zS3 (.int (Int32.ofNat (30 + j.1)))) (.int (Int32.ofNat (48 + (30 + j.1) % 10)))) := by decide +kernel
theorem dg_o4 : ∀ j : Fin 10, (flat (Jvm.Cond.and given_1 narrow_1))[58 + j.1]? = some (Cond.eq (.elem zS3 (.int (Int32.ofNat (40 + j.1)))) (.int (Int32.ofNat (48 + (40 + j.1) % 10)))) := by decide +kernel
theorem dg_o5 : ∀ j : Fin 10, (flat (Jvm.Cond.and given_1 narrow_1))[68 + j.1]? = some (Cond.eq (.elem zS3 (.int (Int32.ofNat (50 + j.1)))) (.int (Int32.ofNat (48 + (50 + j.1) % 10)))) := by decide +kernel
theorem dg_o6 : ∀ j : Fin 10, (flat (Jvm.Cond.and given_1 narrow_1))[78 + j.1]? = some (Cond.eq (.elem zS3 (.int (Int32.ofNat (60 + j.1)))) (.int (Int32.ofNat (48 + (60 + j.1) % 10)))) := by decide +kernel
theorem dg_o7 : ∀ j : Fin 10, (flat (Jvm.Cond.and given_1 narrow_1))[88 + j.1]? = some (Cond.eq (.elem zS3 (.int (Int32.ofNat (70 + j.1)))) (.int (Int32.ofNat (48 + (70 + j.1) % 10)))) := by decide +kernel
theorem dg_o8 : ∀ j : Fin 10, (flat (Jvm.Cond.and given_1 narrow_1))[98 + j.1]? = some (Cond.eq (.elem zS3 (.int (Int32.ofNat (80 + j.1)))) (.int (Int32.ofNat (48 + (80 + j.1) % 10)))) := by decide +kernel
theorem dg_o9 : ∀ j : Fin 10, (flat (Jvm.Cond.and given_1 narrow_1))[108 + j.1]? = some (Cond.eq (.elem zS3 (.int (Int32.ofNat (90 + j.1)))) (.int (Int32.ofNat (48 + (90 + j.1) % 10)))) := by decide +kernel
