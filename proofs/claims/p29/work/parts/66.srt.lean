/-! LISTS in order: what the queue, the ranks and the final round have in common -/
def cntN (f : Nat → Bool) : Nat → Nat
  | 0 => 0
  | n + 1 => cntN f n + (if f n = true then 1 else 0)
theorem cntN_le (f : Nat → Bool) : ∀ n, cntN f n ≤ n := by
  intro n
  induction n with
  | zero => exact Nat.le_refl _
  | succ n ih => unfold cntN; by_cases h : f n = true
                 · rw [if_pos h]; omega
                 · rw [if_neg h]; omega
theorem cntN_c {f g : Nat → Bool} : ∀ n, (∀ k, k < n → f k = g k) → cntN f n = cntN g n := by
  intro n
  induction n with
  | zero => intro _; rfl
  | succ n ih => intro h; unfold cntN; rw [ih (fun k hk => h k (by omega)), h n (by omega)]
def insq (lt : Nat → Nat → Bool) (p : Nat) : List Nat → List Nat
  | [] => [p]
  | x :: t => if lt p x = true then p :: x :: t else x :: insq lt p t
def srtL (sel : Nat → Bool) (lt : Nat → Nat → Bool) : Nat → List Nat
  | 0 => []
  | n + 1 => if sel n = true then insq lt n (srtL sel lt n) else srtL sel lt n
theorem insq_mem (lt : Nat → Nat → Bool) (p : Nat) : ∀ l x, x ∈ insq lt p l ↔ x = p ∨ x ∈ l := by
  intro l
  induction l with
  | nil => intro x; simp [insq]
  | cons y t ih =>
    intro x
    unfold insq
    by_cases h : lt p y = true
    · simp [h]
    · simp [h, ih]
      constructor
      · rintro (h | h | h)
        · exact Or.inr (Or.inl h)
        · exact Or.inl h
        · exact Or.inr (Or.inr h)
      · rintro (h | h | h)
        · exact Or.inr (Or.inl h)
        · exact Or.inl h
        · exact Or.inr (Or.inr h)
theorem insq_cnt (lt : Nat → Nat → Bool) (p : Nat) (f : Nat → Bool) : ∀ l, List.countP f (insq lt p l) = List.countP f l + (if f p = true then 1 else 0) := by
  intro l
  induction l with
  | nil => simp [insq, List.countP_cons]
  | cons y t ih =>
    unfold insq
    by_cases h : lt p y = true
    · simp [h, List.countP_cons]
    · simp only [h, Bool.false_eq_true, if_false, List.countP_cons, ih]; omega
theorem insq_len (lt : Nat → Nat → Bool) (p : Nat) : ∀ l, (insq lt p l).length = l.length + 1 := by
  intro l
  induction l with
  | nil => rfl
  | cons y t ih =>
    unfold insq
    by_cases h : lt p y = true
    · simp [h]
    · simp [h, ih]
theorem srt_mem (sel : Nat → Bool) (lt : Nat → Nat → Bool) : ∀ n x, x ∈ srtL sel lt n ↔ x < n ∧ sel x = true := by
  intro n
  induction n with
  | zero => intro x; simp [srtL]
  | succ n ih =>
    intro x
    unfold srtL
    by_cases h : sel n = true
    · rw [if_pos h, insq_mem, ih]
      constructor
      · rintro (h1 | ⟨h1, h2⟩)
        · subst h1; exact ⟨by omega, h⟩
        · exact ⟨by omega, h2⟩
      · rintro ⟨h1, h2⟩
        by_cases g : x = n
        · exact Or.inl g
        · exact Or.inr ⟨by omega, h2⟩
    · rw [if_neg h, ih]
      constructor
      · rintro ⟨h1, h2⟩; exact ⟨by omega, h2⟩
      · rintro ⟨h1, h2⟩
        have : x ≠ n := fun g => h (g ▸ h2)
        exact ⟨by omega, h2⟩
theorem srt_cnt (sel : Nat → Bool) (lt : Nat → Nat → Bool) (f : Nat → Bool) : ∀ n, List.countP f (srtL sel lt n) = cntN (fun o => sel o && f o) n := by
  intro n
  induction n with
  | zero => rfl
  | succ n ih =>
    unfold srtL cntN
    by_cases h : sel n = true
    · rw [if_pos h, insq_cnt, ih, h, Bool.true_and]
    · rw [if_neg h, ih]
      simp [h]
theorem srt_len (sel : Nat → Bool) (lt : Nat → Nat → Bool) : ∀ n, (srtL sel lt n).length = cntN sel n := by
  intro n
  induction n with
  | zero => rfl
  | succ n ih =>
    unfold srtL cntN
    by_cases h : sel n = true
    · rw [if_pos h, insq_len, ih, if_pos h]
    · rw [if_neg h, ih, if_neg h]; rfl
/-- a strict total order -/
def StO (lt : Nat → Nat → Bool) : Prop := (∀ a, lt a a = false) ∧ (∀ a b c, lt a b = true → lt b c = true → lt a c = true) ∧ (∀ a b, lt a b = false → a ≠ b → lt b a = true)
theorem insq_pw (lt : Nat → Nat → Bool) (hl : StO lt) (p : Nat) : ∀ l, p ∉ l → l.Pairwise (fun a b => lt a b = true) → (insq lt p l).Pairwise (fun a b => lt a b = true) := by
  intro l
  induction l with
  | nil => intro _ _; simp [insq]
  | cons y t ih =>
    intro hp h
    rw [List.pairwise_cons] at h
    unfold insq
    by_cases g : lt p y = true
    · rw [if_pos g, List.pairwise_cons]
      refine ⟨?_, List.pairwise_cons.mpr h⟩
      intro x hx
      rcases List.mem_cons.mp hx with hx | hx
      · subst hx; exact g
      · exact hl.2.1 _ _ _ g (h.1 x hx)
    · rw [if_neg g, List.pairwise_cons]
      refine ⟨?_, ih (fun h2 => hp (List.mem_cons_of_mem _ h2)) h.2⟩
      intro x hx
      rcases (insq_mem lt p t x).mp hx with hx | hx
      · subst hx
        exact hl.2.2 _ _ (by simpa using g) (fun h3 => hp (by rw [h3]; exact List.mem_cons_self ..))
      · exact h.1 x hx
theorem srt_pw (sel : Nat → Bool) (lt : Nat → Nat → Bool) (hl : StO lt) : ∀ n, (srtL sel lt n).Pairwise (fun a b => lt a b = true) := by
  intro n
  induction n with
  | zero => exact List.Pairwise.nil
  | succ n ih =>
    unfold srtL
    by_cases h : sel n = true
    · rw [if_pos h]
      exact insq_pw lt hl n _ (fun h2 => by have := ((srt_mem sel lt n n).mp h2).1; omega) ih
    · rw [if_neg h]; exact ih
/-- the i-th has i ahead -/
theorem pw_place (lt : Nat → Nat → Bool) (hl : StO lt) : ∀ (l : List Nat), l.Pairwise (fun a b => lt a b = true) → ∀ i (h : i < l.length), List.countP (fun o => lt o l[i]) l = i := by
  intro l
  induction l with
  | nil => intro _ i h; exact absurd h (Nat.not_lt_zero i)
  | cons y t ih =>
    intro hp i h
    rw [List.pairwise_cons] at hp
    cases i with
    | zero =>
      show List.countP (fun o => lt o y) (y :: t) = 0
      rw [List.countP_eq_zero]
      intro x hx
      rcases List.mem_cons.mp hx with hx | hx
      · subst hx; rw [hl.1]; decide
      · intro h3
        have := hl.2.1 _ _ _ (hp.1 x hx) h3
        rw [hl.1] at this; cases this
    | succ i =>
      have hi : i < t.length := by simpa using h
      show List.countP (fun o => lt o t[i]) (y :: t) = i + 1
      rw [List.countP_cons, ih hp.2 i hi, if_pos (hp.1 _ (List.getElem_mem hi))]
def plc (sel : Nat → Bool) (lt : Nat → Nat → Bool) (n x : Nat) : Nat := cntN (fun o => sel o && lt o x) n
theorem srt_plc (sel : Nat → Bool) (lt : Nat → Nat → Bool) (hl : StO lt) (n i : Nat) (h : i < (srtL sel lt n).length) : plc sel lt n (srtL sel lt n)[i] = i := by
  unfold plc
  rw [← srt_cnt sel lt]
  exact pw_place lt hl _ (srt_pw sel lt hl n) i h
theorem srt_get (sel : Nat → Bool) (lt : Nat → Nat → Bool) (hl : StO lt) (n x : Nat) (hx : x < n) (hs : sel x = true) : ∃ h : plc sel lt n x < (srtL sel lt n).length, (srtL sel lt n)[plc sel lt n x] = x := by
  obtain ⟨i, hi, h⟩ := List.getElem_of_mem ((srt_mem sel lt n x).mpr ⟨hx, hs⟩)
  have h2 := srt_plc sel lt hl n i hi
  rw [h] at h2
  subst h2
  exact ⟨hi, h⟩
/-- places tell players apart -/
theorem plc_inj (sel : Nat → Bool) (lt : Nat → Nat → Bool) (hl : StO lt) (n x y : Nat) (hx : x < n) (hs : sel x = true) (hy : y < n) (ht : sel y = true) (h : plc sel lt n x = plc sel lt n y) : x = y := by
  obtain ⟨h1, h2⟩ := srt_get sel lt hl n x hx hs
  obtain ⟨h3, h4⟩ := srt_get sel lt hl n y hy ht
  rw [← h2, ← h4]
  congr 1
theorem plc_lt (sel : Nat → Bool) (lt : Nat → Nat → Bool) (hl : StO lt) (n x : Nat) (hx : x < n) (hs : sel x = true) : plc sel lt n x < cntN sel n := by
  obtain ⟨h1, _⟩ := srt_get sel lt hl n x hx hs
  rwa [srt_len] at h1
/-- the player at a place -/
def atp (sel : Nat → Bool) (lt : Nat → Nat → Bool) (n i : Nat) : Option Nat := (srtL sel lt n)[i]?
theorem atp_some (sel : Nat → Bool) (lt : Nat → Nat → Bool) (hl : StO lt) (n i x : Nat) : atp sel lt n i = some x ↔ x < n ∧ sel x = true ∧ plc sel lt n x = i := by
  unfold atp
  rw [List.getElem?_eq_some_iff]
  constructor
  · rintro ⟨h, h2⟩
    have h3 := (srt_mem sel lt n x).mp (h2 ▸ List.getElem_mem h)
    have h4 := srt_plc sel lt hl n i h
    rw [h2] at h4
    exact ⟨h3.1, h3.2, h4⟩
  · rintro ⟨h1, h2, h3⟩
    obtain ⟨h4, h5⟩ := srt_get sel lt hl n x h1 h2
    subst h3
    exact ⟨h4, h5⟩
theorem atp_none (sel : Nat → Bool) (lt : Nat → Nat → Bool) (n i : Nat) : atp sel lt n i = none ↔ cntN sel n ≤ i := by
  unfold atp
  rw [List.getElem?_eq_none_iff, srt_len]
theorem insq_split (lt : Nat → Nat → Bool) (p : Nat) : ∀ l1 l2 : List Nat, (∀ x ∈ l1, lt p x = false) → (∀ x ∈ l2, lt p x = true) → insq lt p (l1 ++ l2) = l1 ++ p :: l2 := by
  intro l1
  induction l1 with
  | nil =>
    intro l2 _ h2
    cases l2 with
    | nil => rfl
    | cons y t => show (if lt p y = true then p :: y :: t else _) = _; rw [if_pos (h2 y (List.mem_cons_self ..))]; rfl
  | cons y t ih =>
    intro l2 h1 h2
    show (if lt p y = true then _ else y :: insq lt p (t ++ l2)) = _
    rw [if_neg (by rw [h1 y (List.mem_cons_self ..)]; decide), ih l2 (fun x hx => h1 x (List.mem_cons_of_mem _ hx)) h2]
    rfl
