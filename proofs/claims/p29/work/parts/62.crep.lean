/-! THE CLASS: the replay -/
def orN (x : Int32) : Int32 := if x < 0 then -10000005 else x
def zsl (R : Nat → Int32) : Nat → Nat → Int32
  | 0 => fun _ => -10000005
  | k + 1 => fun c => if ¬ 4 ≤ R (60 + 5 * k + 1) ∧ R (60 + 5 * k + 4) = 1 ∧ ¬ vd R k = true ∧ R (60 + 5 * k + 2) = nn c then nn (eP R k) else zsl R k c
/-- entry k is as entries are -/
def EG (R : Nat → Int32) (k : Nat) : Prop :=
  (R (60 + 5 * k) = nn (eP R k) ∧ eP R k < 6) ∧
  ((∃ c, c < 25 ∧ R (60 + 5 * k + 2) = nn c ∧ (R (60 + 5 * k + 1) = 0 ∨ R (60 + 5 * k + 1) = 1 ∨ R (60 + 5 * k + 1) = 2) ∧ (bt (R 11) c = true ↔ R (60 + 5 * k + 1) = 2) ∧ bt (R 10) c = true ∧ (R (60 + 5 * k + 4) = 0 ∨ R (60 + 5 * k + 4) = 1)) ∨
   (R (60 + 5 * k + 2) = -1 ∧ R (60 + 5 * k + 1) = 3 ∧ (R (60 + 5 * k + 4) = 0 ∨ R (60 + 5 * k + 4) = 1)) ∨
   (R (60 + 5 * k + 2) = -1 ∧ R (60 + 5 * k + 1) = 4 ∧ R (60 + 5 * k + 4) = -1)) ∧
  (-100000 ≤ R (60 + 5 * k + 3) ∧ R (60 + 5 * k + 3) ≤ 100000)
theorem zIt_or (p : Nat → Bool) : ∀ d j a, (zIt (fun j a => a || p j) d j a = true ↔ a = true ∨ ∃ i, j ≤ i ∧ i < j + d ∧ p i = true) := by
  intro d
  induction d with
  | zero =>
    intro j a
    show a = true ↔ _
    exact ⟨Or.inl, fun h => h.elim id (fun ⟨i, h1, h2, _⟩ => by omega)⟩
  | succ d ih =>
    intro j a
    show zIt _ d (j + 1) (a || p j) = true ↔ _
    rw [ih, Bool.or_eq_true]
    constructor
    · rintro ((h | h) | ⟨i, h1, h2, h3⟩)
      · exact Or.inl h
      · exact Or.inr ⟨j, Nat.le_refl _, by omega, h⟩
      · exact Or.inr ⟨i, by omega, by omega, h3⟩
    · rintro (h | ⟨i, h1, h2, h3⟩)
      · exact Or.inl (Or.inl h)
      · by_cases g : i = j
        · subst g; exact Or.inl (Or.inr h3)
        · exact Or.inr ⟨i, by omega, by omega, h3⟩
def vdC (R : Nat → Int32) (x : Int32) (j : Nat) : Prop := ¬ 2 ≤ R (60 + 5 * j + 1) ∧ R (60 + 5 * j + 2) = x ∧ R (60 + 5 * j + 4) = 1
theorem vd_iff (R : Nat → Int32) (k : Nat) : vd R k = true ↔ R (60 + 5 * k + 1) = 1 ∧ ∃ j, j < k ∧ vdC R (R (60 + 5 * k + 2)) j := by
  unfold vd
  rw [Bool.and_eq_true, decide_eq_true_eq]
  refine and_congr_right fun _ => ?_
  have h := zIt_or (fun j => !decide (2 ≤ R (60 + 5 * j + 1)) && (decide (R (60 + 5 * j + 2) = R (60 + 5 * k + 2)) && decide (R (60 + 5 * j + 4) = 1))) k 0 false
  refine Iff.trans h ?_
  unfold vdC
  constructor
  · rintro (h | ⟨i, _, h2, h3⟩)
    · cases h
    · simp only [Bool.and_eq_true, Bool.not_eq_true', decide_eq_false_iff_not, decide_eq_true_eq] at h3
      exact ⟨i, by omega, h3⟩
  · rintro ⟨i, h2, h3⟩
    refine Or.inr ⟨i, by omega, by omega, ?_⟩
    simp only [Bool.and_eq_true, Bool.not_eq_true', decide_eq_false_iff_not, decide_eq_true_eq]
    exact h3
theorem nn_nn (P : Nat) (h : P < 2147483648) : ¬ (nn P = -10000005) := by
  rw [ti_eq, ti_nn _ h]
  have : (-10000005 : Int32).toInt = -10000005 := by decide +kernel
  omega
/-- a steal is void just when its clue is solved -/
theorem vd_sl (R : Nat → Int32) (E c : Nat) (hc : bt (R 11) c = false) (hE : ∀ k, k < E → EG R k) (hc25 : c < 25) : ∀ k, k ≤ E → ((∃ j, j < k ∧ vdC R (nn c) j) ↔ ¬ zsl R k c = -10000005) := by
  intro k
  induction k with
  | zero => intro _; exact ⟨fun ⟨j, h, _⟩ => absurd h (Nat.not_lt_zero j), fun h => absurd rfl h⟩
  | succ k ih =>
    intro hk
    have ih := ih (by omega)
    obtain ⟨⟨hp, hp6⟩, hs, _⟩ := hE k (by omega)
    show _ ↔ ¬ (if ¬ 4 ≤ R (60 + 5 * k + 1) ∧ R (60 + 5 * k + 4) = 1 ∧ ¬ vd R k = true ∧ R (60 + 5 * k + 2) = nn c then nn (eP R k) else zsl R k c) = -10000005
    constructor
    · rintro ⟨j, hj, h1, h2, h3⟩
      by_cases g : ¬ 4 ≤ R (60 + 5 * k + 1) ∧ R (60 + 5 * k + 4) = 1 ∧ ¬ vd R k = true ∧ R (60 + 5 * k + 2) = nn c
      · rw [if_pos g]; exact nn_nn _ (by omega)
      · rw [if_neg g]
        apply ih.mp
        by_cases hjk : j = k
        · subst hjk
          have h4 : ¬ 4 ≤ R (60 + 5 * j + 1) := by (simp (disch := omega) only [Int32.le_iff_toInt_le, Int32.lt_iff_toInt_lt, ti_eq, ti_l, ti_neg, ti_nn] at *; omega)
          by_cases hv : vd R j = true
          · obtain ⟨_, i, hi, h5⟩ := (vd_iff R j).mp hv
            exact ⟨i, hi, by rw [← h2]; exact h5⟩
          · exact absurd ⟨h4, h3, hv, h2⟩ g
        · exact ⟨j, by omega, h1, h2, h3⟩
    · intro h
      by_cases g : ¬ 4 ≤ R (60 + 5 * k + 1) ∧ R (60 + 5 * k + 4) = 1 ∧ ¬ vd R k = true ∧ R (60 + 5 * k + 2) = nn c
      · obtain ⟨g1, g2, g3, g4⟩ := g
        refine ⟨k, by omega, ?_, g4, g2⟩
        rcases hs with ⟨c', hc', h1, h2, h3, _⟩ | ⟨h1, _⟩ | ⟨h1, _⟩
        · have : c' = c := by
            have := h1.symm.trans g4
            rwa [nn_inj _ _ (by omega) (by omega)] at this
          subst this
          rcases h2 with h2 | h2 | h2
          · rw [h2]; decide
          · rw [h2]; decide
          · rw [h3.mpr h2] at hc; cases hc
        · rw [h1] at g4
          exact absurd g4.symm (by rw [ti_eq, ti_nn _ (by omega)]; have : (-1 : Int32).toInt = -1 := by decide +kernel
                                   omega)
        · rw [h1] at g4
          exact absurd g4.symm (by rw [ti_eq, ti_nn _ (by omega)]; have : (-1 : Int32).toInt = -1 := by decide +kernel
                                   omega)
      · rw [if_neg g] at h
        obtain ⟨j, h1, h2⟩ := ih.mpr h
        exact ⟨j, by omega, h2⟩
