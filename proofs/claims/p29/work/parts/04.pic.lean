/-! WHAT THE VIRTUAL CELLS ARE IN THE MACHINE. G: the first new address; the values of the old cells; the array classes; the classes and slots; the old cells' kinds, lengths, ints, references. -/
abbrev zeG : Type := Nat × (Nat → Value) × (Nat → ClassId) × va_G × (Nat → Nat) × (Nat → Nat) × (Nat → Nat → Int32) × (Nat → Nat → Option Nat)
abbrev zeN0 (G : zeG) : Nat := G.1
abbrev zeOv (G : zeG) : Nat → Value := G.2.1
abbrev zeCA (G : zeG) : Nat → ClassId := G.2.2.1
abbrev zeD (G : zeG) : va_G := G.2.2.2.1
abbrev zeOk (G : zeG) : Nat → Nat := G.2.2.2.2.1
abbrev zeOl (G : zeG) : Nat → Nat := G.2.2.2.2.2.1
abbrev zeOi (G : zeG) : Nat → Nat → Int32 := G.2.2.2.2.2.2.1
abbrev zeOr (G : zeG) : Nat → Nat → Option Nat := G.2.2.2.2.2.2.2
def zeA (G : zeG) : Nat → Prop := fun q => zeN0 G ≤ q
def zeAd (G : zeG) (a : Nat) : Nat := zeN0 G + (a - 16)
def zeTr (G : zeG) : Value → Value
  | .ref a => if a < 16 then zeOv G a else .ref (zeAd G a)
  | v => v
theorem zeTr_i (G : zeG) (x : Int32) : zeTr G (.int x) = .int x := rfl
theorem zeTr_l (G : zeG) (x : Int64) : zeTr G (.long x) = .long x := rfl
theorem zeTr_n (G : zeG) : zeTr G .null = .null := rfl
theorem zeTr_r (G : zeG) {a : Nat} (h : 16 ≤ a) : zeTr G (.ref a) = .ref (zeAd G a) := by
  show (if a < 16 then zeOv G a else .ref (zeAd G a)) = _
  rw [if_neg (Nat.not_lt.mpr h)]
theorem zeTr_o (G : zeG) {a : Nat} (h : a < 16) : zeTr G (.ref a) = zeOv G a := by
  show (if a < 16 then zeOv G a else .ref (zeAd G a)) = _
  rw [if_pos h]
/-- an object's fields, by its class's list of which are references -/
def zeFs (G : zeG) (r : Nat → Option Nat) (f : Nat → Int32) : Nat → List Bool → List Value
  | _, [] => []
  | j, b :: l => (if b = true then va_rf ((r j).map (zeAd G)) else .int (f j)) :: zeFs G r f (j + 1) l
theorem zeFs_get (G : zeG) (r : Nat → Option Nat) (f : Nat → Int32) : ∀ (l : List Bool) (j i : Nat) (b : Bool), l[i]? = some b → (zeFs G r f j l)[i]? = some (if b = true then va_rf ((r (j + i)).map (zeAd G)) else .int (f (j + i)))
  | [], j, i, b, h => by simp at h
  | c :: l, j, 0, b, h => by
    simp at h
    subst h
    simp [zeFs]
  | c :: l, j, i + 1, b, h => by
    rw [List.getElem?_cons_succ] at h
    have := zeFs_get G r f l (j + 1) i b h
    simp only [zeFs, List.getElem?_cons_succ]
    rw [this, show j + 1 + i = j + (i + 1) by omega]
theorem zeFs_len (G : zeG) (r : Nat → Option Nat) (f : Nat → Int32) : ∀ (l : List Bool) (j : Nat), (zeFs G r f j l).length = l.length
  | [], _ => rfl
  | _ :: l, j => by simp [zeFs, zeFs_len G r f l (j + 1)]
/-- the element type's place among the array types: 0 int, 1 long, 2 byte, 3 char, 4 boolean, 5 references -/
def zeArrR (G : zeG) (t ln : Nat) (r : Nat → Option Nat) (f : Nat → Int32) (g : Nat → Int64) : vp_A := if t = 5 then (ln, .inr (.inr (.inr (.inr (fun j => (r j).map (zeAd G)))))) else if t = 1 then (ln, .inr (.inl g)) else (ln, .inl f)
def zeCellR (G : zeG) (kd ln : Nat) (r : Nat → Option Nat) (f : Nat → Int32) (g : Nat → Int64) : va_E := if kd < 40 then .inr (kd - 1, zeFs G r f 0 (zeFL (kd - 1))) else .inl (zeCA G (kd - 40), zeArrR G (kd - 40) ln r f g)
def zeCell (G : zeG) (μ : zeM) (k : Nat) : va_E := zeCellR G (zeKd μ k) (zeLn μ k) (zeRm μ k) (zeIm μ k) (zeLm μ k)
def zeW (G : zeG) (μ : zeM) : va_W := (List.range (zeN μ)).map fun i => (zeN0 G + i, zeCell G μ (16 + i))
def zeTY (G : zeG) : List (ClassId × FieldType) := [(zeCA G 0, .int), (zeCA G 1, .long), (zeCA G 2, .char), (zeCA G 3, .char), (zeCA G 4, .boolean), (zeCA G 5, .object "WagerQuiz$State")]
theorem zeW_get {G : zeG} {μ : zeM} {k : Nat} (h1 : 16 ≤ k) (h2 : k < 16 + zeN μ) : (zeW G μ)[k - 16]? = some (zeAd G k, zeCell G μ k) := by
  have h3 : k - 16 < zeN μ := by omega
  simp [zeW, h3, zeAd, show 16 + (k - 16) = k by omega]
theorem zeW_at {G : zeG} {μ : zeM} {i : Nat} {q : Nat × va_E} (h : (zeW G μ)[i]? = some q) : i < zeN μ ∧ q = (zeN0 G + i, zeCell G μ (16 + i)) := by
  unfold zeW at h
  rw [List.getElem?_map] at h
  by_cases hi : i < zeN μ
  · rw [List.getElem?_range hi] at h
    exact ⟨hi, (Option.some.inj h).symm⟩
  · rw [List.getElem?_eq_none (by simpa using hi)] at h
    cases h
theorem zeW_D (G : zeG) (μ : zeM) : va_D (zeA G) (zeW G μ) := by
  refine ⟨fun i j p q hp hq h => ?_, fun i q hq => ?_⟩
  · obtain ⟨-, rfl⟩ := zeW_at hp
    obtain ⟨-, rfl⟩ := zeW_at hq
    simp at h
    exact h
  · obtain ⟨-, rfl⟩ := zeW_at hq
    show zeN0 G ≤ zeN0 G + i
    omega
/-- one cell has changed -/
theorem zeW_set {G : zeG} {μ μ' : zeM} {k : Nat} (h1 : 16 ≤ k) (h2 : k < 16 + zeN μ) (hn : zeN μ' = zeN μ) (ho : ∀ a, a ≠ k → zeCell G μ' a = zeCell G μ a) : zeW G μ' = (zeW G μ).set (k - 16) (zeAd G k, zeCell G μ' k) := by
  apply List.ext_getElem?
  intro i
  by_cases hi : i = k - 16
  · subst hi
    rw [zeW_get h1 (by rw [hn]; exact h2), List.getElem?_set_self]
    simpa [zeW] using show k - 16 < zeN μ by omega
  · rw [List.getElem?_set_ne (Ne.symm hi)]
    unfold zeW
    rw [hn, List.getElem?_map, List.getElem?_map]
    by_cases hl : i < zeN μ
    · rw [List.getElem?_range hl]
      simp only [Option.map_some]
      rw [ho (16 + i) (by omega)]
    · rw [List.getElem?_eq_none (by simpa using hl)]
      rfl
/-- one cell is new -/
theorem zeW_push {G : zeG} {μ μ' : zeM} (hn : zeN μ' = zeN μ + 1) (ho : ∀ a, a ≠ 16 + zeN μ → zeCell G μ' a = zeCell G μ a) : zeW G μ' = zeW G μ ++ [(zeN0 G + zeN μ, zeCell G μ' (16 + zeN μ))] := by
  unfold zeW
  rw [hn, List.range_succ, List.map_append]
  congr 1
  apply List.map_congr_left
  intro i hi
  rw [ho (16 + i) (by have := List.mem_range.mp hi; omega)]
/-- the heap holds the virtual cells -/
def zePic (G : zeG) (μ : zeM) (H : Heap) : Prop := va_P (zeD G) zeCl (zeW G μ) H ∧ H.size = zeN0 G + zeN μ
/-- what holds of the virtual cells themselves: the old ones as they were; bytes are bytes; no cell beyond the last -/
def zeWf (G : zeG) (μ : zeM) : Prop := (∀ k, k < 16 → zeKd μ k = zeOk G k ∧ zeLn μ k = zeOl G k ∧ (∀ j, zeIm μ k j = zeOi G k j) ∧ ∀ j, zeRm μ k j = zeOr G k j) ∧ (∀ k, zeKd μ k = 42 ∨ zeKd μ k = 102 → ∀ j, fits .byte (.int (zeIm μ k j)) = true) ∧ (∀ k, 0 < zeKd μ k → k < 16 + zeN μ ∧ (zeKd μ k < 100 ∨ k < 16)) ∧ (∀ k j a, zeRm μ k j = some a → 16 ≤ k → 16 ≤ a) ∧ ∀ k, k < 16 → zeKd μ k = 0 ∨ 100 ≤ zeKd μ k
def zeMon (μ μ' : zeM) : Prop := (μ'.1 = true → μ.1 = true) ∧ zeN μ ≤ zeN μ' ∧ zeSl μ ≤ zeSl μ'
theorem zeMon.rf (μ : zeM) : zeMon μ μ := ⟨fun h => h, Nat.le_refl _, Nat.le_refl _⟩
theorem zeMon.tr {a b c : zeM} (h1 : zeMon a b) (h2 : zeMon b c) : zeMon a c := ⟨fun h => h1.1 (h2.1 h), Nat.le_trans h1.2.1 h2.2.1, Nat.le_trans h1.2.2 h2.2.2⟩
theorem zeMon.ck (b : Bool) (μ : zeM) : zeMon μ (zeCk b μ) := ⟨fun h => (Bool.and_eq_true _ _ ▸ h : b = true ∧ μ.1 = true).2, Nat.le_refl _, Nat.le_refl _⟩
theorem zeCk_b {b : Bool} {μ : zeM} (h : (zeCk b μ).1 = true) : b = true := (Bool.and_eq_true _ _ ▸ h : b = true ∧ μ.1 = true).1
/-- what the Statement gives of the tables, at a method's start -/
def zeOldA (G : zeG) (U : State) (H : Heap) : Prop := ∀ k, k < 16 → (zeOk G k = 100 → ∃ t, zeOv G k = .ref t ∧ va_T .int t (zeOl G k) (fun j => .int (zeOi G k j)) (zeA G) U H) ∧ (zeOk G k = 102 → ∃ t, zeOv G k = .ref t ∧ va_T .byte t (zeOl G k) (fun j => .int (zeOi G k j)) (zeA G) U H ∧ ∀ j, fits .byte (.int (zeOi G k j)) = true) ∧ (zeOk G k = 110 → ∃ t r, zeOv G k = .ref t ∧ zeOr G k 0 = some r ∧ r < 16 ∧ va_O "java/lang/String" t (zeA G) U H ∧ va_OF "java/lang/String" "value" "[B" (zeOv G r) t (zeA G) U H ∧ va_OF "java/lang/String" "coder" "B" (.int (zeOi G k 1)) t (zeA G) U H) ∧ (zeOk G k = 0 ∨ zeOk G k = 100 ∨ zeOk G k = 102 ∨ zeOk G k = 110)
theorem zeOldA.to {G : zeG} {u U : State} {H H1 : Heap} (hvm : u.vm.Alike U.vm) (hq : ∀ a : Nat, a < H.size → ¬ zeA G a → H1[a]? = H[a]?) (h : zeOldA G u H) : zeOldA G U H1 := by
  intro k hk
  obtain ⟨h1, h2, h3, h4⟩ := h k hk
  refine ⟨fun e => ?_, fun e => ?_, fun e => ?_, h4⟩
  · obtain ⟨t, e1, e2⟩ := h1 e
    exact ⟨t, e1, (e2.moved hvm).kept hq⟩
  · obtain ⟨t, e1, e2, e3⟩ := h2 e
    exact ⟨t, e1, (e2.moved hvm).kept hq, e3⟩
  · obtain ⟨t, r, e1, e2, e3, e4, e5, e6⟩ := h3 e
    exact ⟨t, r, e1, e2, e3, (e4.moved hvm).kept hq, (e5.moved hvm).kept hq, (e6.moved hvm).kept hq⟩
