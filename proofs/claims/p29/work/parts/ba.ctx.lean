/-! THE LAW'S CONTEXT at its start -/
def OldK (G : zeG) (U : State) (H : Heap) (k : Nat) : Prop := (zeOk G k = 100 → ∃ t, zeOv G k = .ref t ∧ va_T .int t (zeOl G k) (fun j => .int (zeOi G k j)) (zeA G) U H) ∧ (zeOk G k = 102 → ∃ t, zeOv G k = .ref t ∧ va_T .byte t (zeOl G k) (fun j => .int (zeOi G k j)) (zeA G) U H ∧ ∀ j, fits .byte (.int (zeOi G k j)) = true) ∧ (zeOk G k = 110 → ∃ t r, zeOv G k = .ref t ∧ zeOr G k 0 = some r ∧ r < 16 ∧ va_O "java/lang/String" t (zeA G) U H ∧ va_OF "java/lang/String" "value" "[B" (zeOv G r) t (zeA G) U H ∧ va_OF "java/lang/String" "coder" "B" (.int (zeOi G k 1)) t (zeA G) U H) ∧ (zeOk G k = 0 ∨ zeOk G k = 100 ∨ zeOk G k = 102 ∨ zeOk G k = 110)
theorem old_z {G : zeG} {U : State} {H : Heap} {k : Nat} (e : zeOk G k = 0) : OldK G U H k := ⟨fun h => absurd (e.symm.trans h) (by decide), fun h => absurd (e.symm.trans h) (by decide), fun h => absurd (e.symm.trans h) (by decide), Or.inl e⟩
theorem old_i {G : zeG} {U : State} {H : Heap} {k t N : Nat} {f : Nat → Int32} (e : zeOk G k = 100) (hv : zeOv G k = .ref t) (hl : zeOl G k = N) (hf : zeOi G k = f) (hT : va_T .int t N (fun j => .int (f j)) (zeA G) U H) : OldK G U H k := ⟨fun _ => ⟨t, hv, by rw [hl, hf]; exact hT⟩, fun h => absurd (e.symm.trans h) (by decide), fun h => absurd (e.symm.trans h) (by decide), Or.inr (Or.inl e)⟩
def ovR (b t1 : Nat) : Nat → Option Nat
  | 0 => some b
  | 1 => some t1
  | _ => none
theorem kd0_z : ∀ k, 2 ≤ k → k < 16 → KDt 0 k = 0 := by
  have h : ∀ k : Fin 16, 2 ≤ k.1 → KDt 0 k.1 = 0 := by decide +kernel
  exact fun k h1 h2 => h ⟨k, h2⟩ h1
theorem OldA_0 {N0 b L t1 : Nat} {CA : Nat → ClassId} {D : va_G} {xs : Nat → Int32} {U : State} {H : Heap} (g0 : va_T .int b L (fun j => .int (xs j)) (fun q => N0 ≤ q) U H) (g1 : va_T .int t1 3 (fun j => .int (w0 xs 1 j)) (fun q => N0 ≤ q) U H) : zeOldA (zG0 N0 (fun k => va_rf (ovR b t1 k)) CA D L (w0 xs)) U H := by
  intro k hk
  show OldK _ U H k
  by_cases h8 : 2 ≤ k
  · exact old_z (kd0_z k h8 hk)
  have : k = 0 ∨ k = 1 := by omega
  rcases this with g | g <;> subst g
  · exact old_i (N := L) (f := xs) rfl rfl rfl rfl g0
  · exact old_i (N := 3) (f := w0 xs 1) rfl rfl rfl rfl g1
theorem cx_0 {s : State} {args : Array Value} {b L : Nat} {xs : Nat → Int32} (hts : ∀ w ∈ lw_tbl, w.before args s = true) (hX : va_X b L xs s s.heap) (hbl : b < s.heap.size) (hg : (Jvm.Cond.and given_1 narrow_1).before args s = true) : ∃ (Ov : Nat → Value), Ov 0 = .ref b ∧ (∀ CA D, zeOldA (zG0 s.heap.size Ov CA D L (w0 xs)) s s.heap) ∧ (∀ CA D, zeSta (zG0 s.heap.size Ov CA D L (w0 xs)) s s.heap) ∧ ∀ CA D, zeGv (zG0 s.heap.size Ov CA D L (w0 xs)) := by
  have hA : ∀ a : Nat, a < s.heap.size → ¬ (fun q : Nat => s.heap.size ≤ q) a := fun a h => Nat.not_le.mpr h
  have hs := flat_of_before _ hg
  have t : ∀ (w : Cond) (k : Nat), tables_1[k]? = some w → w.before args s = true := fun w k hk => hts w (by unfold lw_tbl; exact List.mem_append_right _ (List.mem_of_getElem? hk))
  have T0 : va_T .int b L (fun j => .int (xs j)) (fun q : Nat => s.heap.size ≤ q) s s.heap := by
    obtain ⟨scr, h1, h2, h3, h4, h5⟩ := hX
    exact ⟨scr, h1, h2, h3, Nat.le_of_eq h4.symm, by rw [h4], h5, hA b hbl⟩
  obtain ⟨t1, e1, T1⟩ := sta_1 xs hg hA
  have Z1 := va_Zref (C := "WagerQuiz") (n := "SETTING_TOPS") (d := "[I") (t _ 286 (by decide +kernel)) (t _ 1 (by decide +kernel)) e1 hA
  have nA := va_AO.of (C := "WagerQuiz$State") (t _ 209 (by decide +kernel))
  have n1 := va_Nw.of (w := .methodLinkNest "WagerQuiz" 9 ⟨"WagerQuiz$State", "<init>", "()V"⟩ "WagerQuiz") rfl (t _ 23 (by decide +kernel))
  have n2 := va_Nw.of (w := .methodLinkNest "WagerQuiz$State" 15 ⟨"WagerQuiz$PickedClue", "<init>", "()V"⟩ "WagerQuiz") rfl (t _ 29 (by decide +kernel))
  have n3 := va_Nw.of (w := .methodLinkNest "WagerQuiz$State" 29 ⟨"WagerQuiz$Log", "<init>", "()V"⟩ "WagerQuiz") rfl (t _ 86 (by decide +kernel))
  have n4 := va_Nw.of (w := .methodLinkNest "WagerQuiz$History" 17 ⟨"WagerQuiz$State", "<init>", "()V"⟩ "WagerQuiz") rfl (t _ 210 (by decide +kernel))
  have n5 := va_Nw.of (w := .methodLinkNest "WagerQuiz" 40 ⟨"WagerQuiz$Script", "<init>", "()V"⟩ "WagerQuiz") rfl (t _ 224 (by decide +kernel))
  have n6 := va_Nw.of (w := .methodLinkNest "WagerQuiz" 47 ⟨"WagerQuiz$Message", "<init>", "()V"⟩ "WagerQuiz") rfl (t _ 238 (by decide +kernel))
  have n7 := va_Nw.of (w := .methodLinkNest "WagerQuiz$Replay" 83 ⟨"WagerQuiz", "isClue", "(I)Z"⟩ "WagerQuiz") rfl (t _ 441 (by decide +kernel))
  have n8 := va_Nw.of (w := .fieldLinkNest "WagerQuiz$State" 47 "WagerQuiz" "SETTING_TOPS" "[I" "WagerQuiz") rfl (t _ 285 (by decide +kernel))
  refine ⟨fun k => va_rf (ovR b t1 k), rfl, fun CA D => OldA_0 T0 T1, fun CA D => ?_, fun CA D a => ⟨_, rfl⟩⟩
  exact ⟨Z1, trivial, trivial, trivial, trivial, trivial, nA, n1, n2, n3, n4, n5, n6, n7, n8⟩
