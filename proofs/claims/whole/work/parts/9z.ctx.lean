/-! THE LAW'S CONTEXT at its start -/
theorem va_Tc {ty : FieldType} {t N : Nat} {f g : Nat → Value} {A : Nat → Prop} {U : State} {H : Heap} (h : va_T ty t N f A U H) (e : ∀ j, j < N → f j = g j) : va_T ty t N g A U H := by
  obtain ⟨c, h1, h2, h3, h4, h5, h6, h7⟩ := h
  exact ⟨c, h1, h2, h3, h4, h5, fun j hj => (h6 j hj).trans (congrArg some (e j hj)), h7⟩
def OldK (G : zeG) (U : State) (H : Heap) (k : Nat) : Prop := (zeOk G k = 100 → ∃ t, zeOv G k = .ref t ∧ va_T .int t (zeOl G k) (fun j => .int (zeOi G k j)) (zeA G) U H) ∧ (zeOk G k = 102 → ∃ t, zeOv G k = .ref t ∧ va_T .byte t (zeOl G k) (fun j => .int (zeOi G k j)) (zeA G) U H ∧ ∀ j, fits .byte (.int (zeOi G k j)) = true) ∧ (zeOk G k = 110 → ∃ t r, zeOv G k = .ref t ∧ zeOr G k 0 = some r ∧ r < 16 ∧ va_O "java/lang/String" t (zeA G) U H ∧ va_OF "java/lang/String" "value" "[B" (zeOv G r) t (zeA G) U H ∧ va_OF "java/lang/String" "coder" "B" (.int (zeOi G k 1)) t (zeA G) U H) ∧ (zeOk G k = 0 ∨ zeOk G k = 100 ∨ zeOk G k = 102 ∨ zeOk G k = 110)
theorem old_z {G : zeG} {U : State} {H : Heap} {k : Nat} (e : zeOk G k = 0) : OldK G U H k := ⟨fun h => absurd (e.symm.trans h) (by decide), fun h => absurd (e.symm.trans h) (by decide), fun h => absurd (e.symm.trans h) (by decide), Or.inl e⟩
theorem old_i {G : zeG} {U : State} {H : Heap} {k t N : Nat} {f : Nat → Int32} (e : zeOk G k = 100) (hv : zeOv G k = .ref t) (hl : zeOl G k = N) (hf : zeOi G k = f) (hT : va_T .int t N (fun j => .int (f j)) (zeA G) U H) : OldK G U H k := ⟨fun _ => ⟨t, hv, by rw [hl, hf]; exact hT⟩, fun h => absurd (e.symm.trans h) (by decide), fun h => absurd (e.symm.trans h) (by decide), Or.inr (Or.inl e)⟩
theorem old_b {G : zeG} {U : State} {H : Heap} {k t N : Nat} {f : Nat → Int32} (e : zeOk G k = 102) (hv : zeOv G k = .ref t) (hl : zeOl G k = N) (hf : zeOi G k = f) (hT : va_T .byte t N (fun j => .int (f j)) (zeA G) U H) (hb : ∀ j, fits .byte (.int (f j)) = true) : OldK G U H k := ⟨fun h => absurd (e.symm.trans h) (by decide), fun _ => ⟨t, hv, by rw [hl, hf]; exact hT, by rw [hf]; exact hb⟩, fun h => absurd (e.symm.trans h) (by decide), Or.inr (Or.inr (Or.inl e))⟩
theorem old_s {G : zeG} {U : State} {H : Heap} {k t q r : Nat} (e : zeOk G k = 110) (hv : zeOv G k = .ref t) (hr : zeOr G k 0 = some r) (h16 : r < 16) (hq : zeOv G r = .ref q) (hf : zeOi G k 1 = 0) (h1 : va_O "java/lang/String" t (zeA G) U H) (h2 : va_OF "java/lang/String" "value" "[B" (.ref q) t (zeA G) U H) (h3 : va_OF "java/lang/String" "coder" "B" (.int 0) t (zeA G) U H) : OldK G U H k := ⟨fun h => absurd (e.symm.trans h) (by decide), fun h => absurd (e.symm.trans h) (by decide), fun _ => ⟨t, r, hv, hr, h16, h1, by rw [hq]; exact h2, by rw [hf]; exact h3⟩, Or.inr (Or.inr (Or.inr e))⟩
def ovR (b t1 k2 v2 k0 v0 k1 v1 : Nat) (r8 : Option Nat) : Nat → Option Nat
  | 0 => some b
  | 1 => some t1
  | 2 => some k2
  | 3 => some v2
  | 4 => some k0
  | 5 => some v0
  | 6 => some k1
  | 7 => some v1
  | 8 => r8
  | _ => none
theorem kd0_z : ∀ k, 8 ≤ k → k < 16 → KDt 0 k = 0 := by
  have h : ∀ k : Fin 16, 8 ≤ k.1 → KDt 0 k.1 = 0 := by decide +kernel
  exact fun k h1 h2 => h ⟨k, h2⟩ h1
theorem OldA_0 {N0 b L t1 k0 v0 k1 v1 k2 v2 : Nat} {r8 : Option Nat} {CA : Nat → ClassId} {D : va_G} {xs : Nat → Int32} {U : State} {H : Heap} (g0 : va_T .int b L (fun j => .int (xs j)) (fun q => N0 ≤ q) U H) (g1 : va_T .int t1 3 (fun j => .int (w0 xs 1 j)) (fun q => N0 ≤ q) U H)
    (o0 : va_O "java/lang/String" k0 (fun q => N0 ≤ q) U H) (c0 : va_OF "java/lang/String" "coder" "B" (.int 0) k0 (fun q => N0 ≤ q) U H) (f0 : va_OF "java/lang/String" "value" "[B" (.ref v0) k0 (fun q => N0 ≤ q) U H) (x0 : va_T .byte v0 6 (fun j => .int (w0 xs 5 j)) (fun q => N0 ≤ q) U H)
    (o1 : va_O "java/lang/String" k1 (fun q => N0 ≤ q) U H) (c1 : va_OF "java/lang/String" "coder" "B" (.int 0) k1 (fun q => N0 ≤ q) U H) (f1 : va_OF "java/lang/String" "value" "[B" (.ref v1) k1 (fun q => N0 ≤ q) U H) (x1 : va_T .byte v1 3 (fun j => .int (w0 xs 7 j)) (fun q => N0 ≤ q) U H)
    (o2 : va_O "java/lang/String" k2 (fun q => N0 ≤ q) U H) (c2 : va_OF "java/lang/String" "coder" "B" (.int 0) k2 (fun q => N0 ≤ q) U H) (f2 : va_OF "java/lang/String" "value" "[B" (.ref v2) k2 (fun q => N0 ≤ q) U H) (x2 : va_T .byte v2 1 (fun j => .int (w0 xs 3 j)) (fun q => N0 ≤ q) U H) : zeOldA (zG0 N0 (fun k => va_rf (ovR b t1 k2 v2 k0 v0 k1 v1 r8 k)) CA D L (w0 xs)) U H := by
  intro k hk
  show OldK _ U H k
  by_cases h8 : 8 ≤ k
  · exact old_z (kd0_z k h8 hk)
  have : k = 0 ∨ k = 1 ∨ k = 2 ∨ k = 3 ∨ k = 4 ∨ k = 5 ∨ k = 6 ∨ k = 7 := by omega
  rcases this with g | g | g | g | g | g | g | g <;> subst g
  · exact old_i (N := L) (f := xs) rfl rfl rfl rfl g0
  · exact old_i (N := 3) (f := w0 xs 1) rfl rfl rfl rfl g1
  · exact old_s (r := 3) rfl rfl rfl (by decide) rfl rfl o2 f2 c2
  · exact old_b (N := 1) (f := w0 xs 3) rfl rfl rfl rfl x2 (fit_w xs 3 (by decide))
  · exact old_s (r := 5) rfl rfl rfl (by decide) rfl rfl o0 f0 c0
  · exact old_b (N := 6) (f := w0 xs 5) rfl rfl rfl rfl x0 (fit_w xs 5 (by decide))
  · exact old_s (r := 7) rfl rfl rfl (by decide) rfl rfl o1 f1 c1
  · exact old_b (N := 3) (f := w0 xs 7) rfl rfl rfl rfl x1 (fit_w xs 7 (by decide))
theorem cx_0 {s : State} {args : Array Value} {b L : Nat} {xs : Nat → Int32} (hts : ∀ w ∈ lw_tbl, w.before args s = true) (hX : va_X b L xs s s.heap) (hbl : b < s.heap.size) (hg : (Jvm.Cond.and given_1 narrow_1).before args s = true) : ∃ (Ov : Nat → Value), Ov 0 = .ref b ∧ (∀ CA D, zeOldA (zG0 s.heap.size Ov CA D L (w0 xs)) s s.heap) ∧ (∀ CA D, zeSta (zG0 s.heap.size Ov CA D L (w0 xs)) s s.heap) ∧ ∀ CA D, zeGv (zG0 s.heap.size Ov CA D L (w0 xs)) := by
  have hA : ∀ a : Nat, a < s.heap.size → ¬ (fun q : Nat => s.heap.size ≤ q) a := fun a h => Nat.not_le.mpr h
  have hs := flat_of_before _ hg
  have t : ∀ (w : Cond) (k : Nat), tables_1[k]? = some w → w.before args s = true := fun w k hk => hts w (by unfold lw_tbl; exact List.mem_append_right _ (List.mem_of_getElem? hk))
  have T0 : va_T .int b L (fun j => .int (xs j)) (fun q : Nat => s.heap.size ≤ q) s s.heap := by
    obtain ⟨scr, h1, h2, h3, h4, h5⟩ := hX
    exact ⟨scr, h1, h2, h3, Nat.le_of_eq h4.symm, by rw [h4], h5, hA b hbl⟩
  obtain ⟨t1, e1, T1⟩ := sta_1 xs hg hA
  obtain ⟨adK, adV, ⟨S, -⟩, eS⟩ := str_0 hg hA
  obtain ⟨o0, c0, f0, x0⟩ := S 0 (by decide)
  obtain ⟨o1, c1, f1, x1⟩ := S 1 (by decide)
  obtain ⟨o2, c2, f2, x2⟩ := S 2 (by decide)
  have X0 : va_T .byte (adV 0) 6 (fun j => .int (w0 xs 5 j)) (fun q : Nat => s.heap.size ≤ q) s s.heap := va_Tc x0 (fun j hj => by
    have hj : j < 6 := hj
    have : j = 0 ∨ j = 1 ∨ j = 2 ∨ j = 3 ∨ j = 4 ∨ j = 5 := by omega
    rcases this with g | g | g | g | g | g <;> subst g <;> rfl)
  have X1 : va_T .byte (adV 1) 3 (fun j => .int (w0 xs 7 j)) (fun q : Nat => s.heap.size ≤ q) s s.heap := va_Tc x1 (fun j hj => by
    have hj : j < 3 := hj
    have : j = 0 ∨ j = 1 ∨ j = 2 := by omega
    rcases this with g | g | g <;> subst g <;> rfl)
  have X2 : va_T .byte (adV 2) 1 (fun j => .int (w0 xs 3 j)) (fun q : Nat => s.heap.size ≤ q) s s.heap := va_Tc x2 (fun j hj => by
    have hj : j < 1 := hj
    have : j = 0 := by omega
    subst this; rfl)
  obtain ⟨r8, Z8⟩ : ∃ r : Option Nat, va_Z "jdk/internal/util/Preconditions" "SIOOBE_FORMATTER" "Ljava/util/function/BiFunction;" (va_rf r) (fun q : Nat => s.heap.size ≤ q) s s.heap := by
    rcases va_Zqof (C := "jdk/internal/util/Preconditions") (n := "SIOOBE_FORMATTER") (d := "Ljava/util/function/BiFunction;") (t _ 771 (by decide +kernel)) (t _ 16 (by decide +kernel)) (hs _ (by decide +kernel)) hA with h | ⟨q, h⟩
    · exact ⟨none, h⟩
    · exact ⟨some q, h⟩
  have Z1 := va_Zref (C := "WagerQuiz") (n := "SETTING_TOPS") (d := "[I") (t _ 295 (by decide +kernel)) (t _ 1 (by decide +kernel)) e1 hA
  have Zc := va_Zof (C := "java/lang/String") (n := "COMPACT_STRINGS") (d := "Z") (t _ 755 (by decide +kernel)) (t _ 14 (by decide +kernel)) (va_eqt (z := 1) (hs _ (by decide +kernel))) hA
  have r0 := vk_R.of (own := "WagerQuiz") (tx := "phase ") (k := 389) (t _ 741 (by decide +kernel)) (eS 0 (by decide))
  have r1 := vk_R.of (own := "WagerQuiz") (tx := "; p") (k := 399) (t _ 806 (by decide +kernel)) (eS 1 (by decide))
  have r2 := vk_R.of (own := "WagerQuiz") (tx := " ") (k := 401) (t _ 807 (by decide +kernel)) (eS 2 (by decide))
  have nA := va_AO.of (C := "WagerQuiz$State") (t _ 214 (by decide +kernel))
  have n1 := va_Nw.of (w := .methodLinkNest "WagerQuiz" 9 ⟨"WagerQuiz$State", "<init>", "()V"⟩ "WagerQuiz") rfl (t _ 28 (by decide +kernel))
  have n2 := va_Nw.of (w := .methodLinkNest "WagerQuiz$State" 15 ⟨"WagerQuiz$PickedClue", "<init>", "()V"⟩ "WagerQuiz") rfl (t _ 34 (by decide +kernel))
  have n3 := va_Nw.of (w := .methodLinkNest "WagerQuiz$State" 29 ⟨"WagerQuiz$Log", "<init>", "()V"⟩ "WagerQuiz") rfl (t _ 91 (by decide +kernel))
  have n4 := va_Nw.of (w := .methodLinkNest "WagerQuiz$History" 17 ⟨"WagerQuiz$State", "<init>", "()V"⟩ "WagerQuiz") rfl (t _ 215 (by decide +kernel))
  have n5 := va_Nw.of (w := .methodLinkNest "WagerQuiz" 40 ⟨"WagerQuiz$Script", "<init>", "()V"⟩ "WagerQuiz") rfl (t _ 229 (by decide +kernel))
  have n6 := va_Nw.of (w := .methodLinkNest "WagerQuiz" 47 ⟨"WagerQuiz$Message", "<init>", "()V"⟩ "WagerQuiz") rfl (t _ 244 (by decide +kernel))
  have n7 := va_Nw.of (w := .methodLinkNest "WagerQuiz$Replay" 83 ⟨"WagerQuiz", "isClue", "(I)Z"⟩ "WagerQuiz") rfl (t _ 507 (by decide +kernel))
  have n8 := va_Nw.of (w := .fieldLinkNest "WagerQuiz$State" 47 "WagerQuiz" "SETTING_TOPS" "[I" "WagerQuiz") rfl (t _ 294 (by decide +kernel))
  refine ⟨fun k => va_rf (ovR b t1 (adK 2) (adV 2) (adK 0) (adV 0) (adK 1) (adV 1) r8 k), rfl, fun CA D => OldA_0 T0 T1 o0 c0 f0 X0 o1 c1 f1 X1 o2 c2 f2 X2, fun CA D => ?_, fun CA D a => ⟨_, rfl⟩⟩
  exact ⟨Z1, Zc, Z8, ⟨adK 0, rfl, r0⟩, ⟨adK 1, rfl, r1⟩, ⟨adK 2, rfl, r2⟩, nA, n1, n2, n3, n4, n5, n6, n7, n8⟩
