/-! CLASSES AND ARRAY CLASSES at the law's start *-/
theorem arr_1 {s : State} {args : Array Value} {ty : FieldType} (hty : ∀ C, ty ≠ .object C) (h : (Cond.arrayClass ty).before args s = true) : ∃ cA, ArrOfT s cA ty ∧ va_RA s cA ty := by
  obtain ⟨c, k, comp, h1, h2, h3⟩ := Cond.arrayClass_spec h
  refine ⟨c, fun n z => ⟨(fun k h => by cases h), k, h2, comp, h3⟩, ?_⟩
  unfold va_RA
  cases ty with
  | object C => exact absurd rfl (hty C)
  | _ => exact h1
theorem arr_o {s : State} {args : Array Value} {C : String} (h : (Cond.arrayOver (.object C)).before args s = true) : ∃ cA, ArrOfT s cA (.object C) ∧ va_RA s cA (.object C) := by
  obtain ⟨comp, c, k, h1, h2, h3, h4, h5⟩ := Cond.arrayOver_spec h
  exact ⟨c, fun n z => ⟨(fun k h => by cases h), k, h3, comp, h4⟩, k, comp, h3, h4, h1, h5⟩
theorem K_all {s : State} {args : Array Value} (h : ∀ w ∈ lw_tbl, w.before args s = true) : ∃ (CA : Nat → ClassId) (D : va_G), ∀ (N0 : Nat) (Ov : Nat → Value) (len : Nat) (w : zI), va_K (zeD (zG0 N0 Ov CA D len w)) zeCl (zeTY (zG0 N0 Ov CA D len w)) s := by
  have hb := xs_ok h
  have t : ∀ (w : Cond) (k : Nat), tables_1[k]? = some w → w.before args s = true := fun w k hk => h w (by unfold lw_tbl; exact List.mem_append_right _ (List.mem_of_getElem? hk))
  obtain ⟨c0, i0, k0⟩ := u_known (C := "WagerQuiz$FinalRound") (T := zeT0) (N := 3) (n := 3) hb zin_0 (t _ 65 (by decide +kernel))
  obtain ⟨c1, i1, k1⟩ := u_known (C := "WagerQuiz$History") (T := zeT1) (N := 3) (n := 3) hb zin_1 (t _ 203 (by decide +kernel))
  obtain ⟨c2, i2, k2⟩ := u_known (C := "WagerQuiz$Log") (T := zeT2) (N := 6) (n := 6) hb zin_2 (t _ 85 (by decide +kernel))
  obtain ⟨c3, i3, k3⟩ := u_known (C := "WagerQuiz$PickedClue") (T := zeT3) (N := 8) (n := 8) hb zin_3 (t _ 28 (by decide +kernel))
  obtain ⟨c4, i4, k4⟩ := u_known (C := "WagerQuiz$Replay") (T := zeT4) (N := 10) (n := 10) hb zin_4 (t _ 155 (by decide +kernel))
  obtain ⟨c5, i5, k5⟩ := u_known (C := "WagerQuiz$Script") (T := zeT5) (N := 2) (n := 2) hb zin_5 (t _ 223 (by decide +kernel))
  obtain ⟨c6, i6, k6⟩ := u_known (C := "WagerQuiz$State") (T := zeT6) (N := 8) (n := 8) hb zin_6 (t _ 22 (by decide +kernel))
  obtain ⟨c7, i7, k7⟩ := u_known (C := "WagerQuiz") (T := zeT7) (N := 8) (n := 8) hb zin_7 (t _ 14 (by decide +kernel))
  obtain ⟨c8, i8, k8⟩ := u_known (C := "WagerQuiz$Message") (T := zeT8) (N := 2) (n := 2) hb zin_8 (t _ 237 (by decide +kernel))
  obtain ⟨a0, r0⟩ := arr_1 (ty := .int) (fun C h => by cases h) (t _ 62 (by decide +kernel))
  obtain ⟨a1, r1⟩ := arr_1 (ty := .long) (fun C h => by cases h) (t _ 63 (by decide +kernel))
  obtain ⟨a2, r2⟩ := arr_1 (ty := .char) (fun C h => by cases h) (t _ 235 (by decide +kernel))
  obtain ⟨a3, r3⟩ := arr_1 (ty := .char) (fun C h => by cases h) (t _ 235 (by decide +kernel))
  obtain ⟨a4, r4⟩ := arr_1 (ty := .boolean) (fun C h => by cases h) (t _ 201 (by decide +kernel))
  obtain ⟨a5, r5⟩ := arr_o (C := "WagerQuiz$State") (t _ 209 (by decide +kernel))
  refine ⟨fun k => match k with | 0 => a0 | 1 => a1 | 2 => a2 | 3 => a3 | 4 => a4 | _ => a5, (fun k => match k with | 0 => c0 | 1 => c1 | 2 => c2 | 3 => c3 | 4 => c4 | 5 => c5 | 6 => c6 | 7 => c7 | _ => c8, fun k => match k with | 0 => i0 | 1 => i1 | 2 => i2 | 3 => i3 | 4 => i4 | 5 => i5 | 6 => i6 | 7 => i7 | _ => i8), fun N0 Ov len w => ⟨?_, ?_⟩⟩
  · intro c q hq
    match c, hq with
    | 0, hq => cases hq; exact k0
    | 1, hq => cases hq; exact k1
    | 2, hq => cases hq; exact k2
    | 3, hq => cases hq; exact k3
    | 4, hq => cases hq; exact k4
    | 5, hq => cases hq; exact k5
    | 6, hq => cases hq; exact k6
    | 7, hq => cases hq; exact k7
    | 8, hq => cases hq; exact k8
    | c + 9, hq => cases hq
  · intro k q hq
    match k, hq with
    | 0, hq => cases hq; exact r0
    | 1, hq => cases hq; exact r1
    | 2, hq => cases hq; exact r2
    | 3, hq => cases hq; exact r3
    | 4, hq => cases hq; exact r4
    | 5, hq => cases hq; exact r5
    | c + 6, hq => cases hq
