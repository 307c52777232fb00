/-! THE FIRST MEMORY keeps the invariant; the law's run as a whole *-/
def IM (w : zI) : zI := iC_41 (imZ w)
def R00 (j : Nat) : Int32 := if j = 27 then -1 else if j = 26 then -1 else if j = 25 then -1 else if j = 24 then -1 else if j = 23 then -1 else if j = 22 then -1 else if j = 8 then 50 else if j = 7 then 5 else if j = 6 then 10 else if j = 2 then -1 else 0
theorem GD_00 : GD R00 ∧ rN R00 = 0 ∧ rE R00 = 0 := by
  have hv : ∀ j, R00 j = if j = 27 then -1 else if j = 26 then -1 else if j = 25 then -1 else if j = 24 then -1 else if j = 23 then -1 else if j = 22 then -1 else if j = 8 then 50 else if j = 7 then 5 else if j = 6 then 10 else if j = 2 then -1 else 0 := fun _ => rfl
  generalize R00 = R at hv
  have v : ∀ j, (j ≤ 21 ∨ 28 ≤ j) → j ≠ 2 → j ≠ 6 → j ≠ 7 → j ≠ 8 → R j = 0 := by
    intro j h h2 h6 h7 h8
    rw [hv, if_neg (by omega), if_neg (by omega), if_neg (by omega), if_neg (by omega), if_neg (by omega), if_neg (by omega), if_neg h8, if_neg h7, if_neg h6, if_neg h2]
  have h0 : R 0 = 0 := v 0 (by omega) (by decide) (by decide) (by decide) (by decide)
  have h1 : R 1 = 0 := v 1 (by omega) (by decide) (by decide) (by decide) (by decide)
  have h5 : R 5 = 0 := v 5 (by omega) (by decide) (by decide) (by decide) (by decide)
  have hN : rN R = 0 := by unfold rN; rw [h1]; rfl
  have hE : rE R = 0 := by unfold rE; rw [h5]; rfl
  have h2 : R 2 = -1 := by rw [hv]; rfl
  have hz : ∀ j, j = 3 ∨ j = 4 ∨ (10 ≤ j ∧ j ≤ 14) → R j = 0 := fun j hj => v j (by omega) (by omega) (by omega) (by omega) (by omega)
  refine ⟨⟨⟨by rw [h1, hN]; rfl, by omega⟩, ⟨by rw [h5, hE]; rfl, by omega⟩, ?_, ⟨0, by omega, h0⟩, ?_, fun _ => h2, ⟨⟨10, by omega, by rw [hv]; rfl⟩, ⟨5, by omega, by rw [hv]; rfl⟩, ⟨50, by omega, by rw [hv]; rfl⟩, ⟨0, by omega, hz 3 (by omega)⟩, ⟨0, by omega, hz 4 (by omega)⟩⟩, ?_, ⟨0, by omega, hz 12 (by omega)⟩, ?_, ?_, ?_, ?_, ?_, ?_, ?_⟩, hN, hE⟩
  · intro k hk; rw [hE] at hk; exact absurd hk (Nat.not_lt_zero k)
  · intro h; rw [h0] at h; exact absurd h (by decide)
  · intro h; rw [h0, hz 10 (by omega)] at h; exact absurd h (by decide)
  · intro i _; rw [hz 10 (by omega), hz 11 (by omega)]; exact ⟨b_0 i, b_0 i⟩
  · intro i _; rw [hz 13 (by omega), hz 14 (by omega)]; exact ⟨b_0 i, b_0 i⟩
  · intro p _ h; rw [hz 13 (by omega), b_0] at h; cases h
  · intro p hp
    left
    have : p = 0 ∨ p = 1 ∨ p = 2 ∨ p = 3 ∨ p = 4 ∨ p = 5 := by omega
    rcases this with g | g | g | g | g | g <;> subst g <;> rw [hv] <;> rfl
  · intro h; rw [h0] at h; exact absurd h (by decide)
  · intro h; rw [h0] at h; exact absurd h (by decide)
  · intro j hj; exact v j (by omega) (by omega) (by omega) (by omega) (by omega)
theorem im_37 (w : zI) (c : Nat) (h : c < 25) : IM w 37 c = -10000005 := by
  have : c = 0 ∨ c = 1 ∨ c = 2 ∨ c = 3 ∨ c = 4 ∨ c = 5 ∨ c = 6 ∨ c = 7 ∨ c = 8 ∨ c = 9 ∨ c = 10 ∨ c = 11 ∨ c = 12 ∨ c = 13 ∨ c = 14 ∨ c = 15 ∨ c = 16 ∨ c = 17 ∨ c = 18 ∨ c = 19 ∨ c = 20 ∨ c = 21 ∨ c = 22 ∨ c = 23 ∨ c = 24 := by omega
  rcases this with g | g | g | g | g | g | g | g | g | g | g | g | g | g | g | g | g | g | g | g | g | g | g | g | g <;> subst g <;> rfl
theorem im_25 (w : zI) (c : Nat) (h : c < 6) : IM w 25 c = -10000005 := by
  have : c = 0 ∨ c = 1 ∨ c = 2 ∨ c = 3 ∨ c = 4 ∨ c = 5 := by omega
  rcases this with g | g | g | g | g | g <;> subst g <;> rfl
def X00 : zX := (0, fun _ _ => 0, fun _ => 0, fun _ _ => 0, 0, fun _ => 0)
theorem CI_00 (w : zI) (hS : w 1 0 = 30 ∧ w 1 1 = 30 ∧ w 1 2 = 100) : CI (IM w) lmZ R00 0 X00 := by
  obtain ⟨hG, hN, hE⟩ := GD_00
  have h0 : R00 0 = 0 := rfl
  refine ⟨hG, ?_, ?_, ?_⟩
  · exact ⟨Nat.zero_le _, fun i hi => absurd hi (Nat.not_lt_zero i), fun s _ => Or.inl rfl, Nat.zero_le _, fun i hi => absurd hi (Nat.not_lt_zero i)⟩
  · refine ⟨⟨⟨rfl, rfl, rfl, rfl⟩, ?_, ⟨rfl, ?_⟩, ?_, ?_, ?_, ?_, ?_, fun _ => rfl⟩, ⟨?_, ?_, ?_, ?_⟩, rfl, hS⟩
    · intro j hj
      have : j = 0 ∨ j = 1 ∨ j = 2 := by omega
      rcases this with g | g | g <;> subst g <;> rfl
    · intro k hk; rw [hE] at hk; exact absurd hk (Nat.not_lt_zero k)
    · intro h; rw [h0] at h; exact absurd h (by decide)
    · intro h; rw [h0] at h; exact absurd h (by decide)
    · intro h; rw [h0] at h; exact absurd h (by decide)
    · intro p hp
      refine ⟨?_, ?_⟩
      · show IM w 25 p = _
        rw [im_25 w p hp]
        have : p = 0 ∨ p = 1 ∨ p = 2 ∨ p = 3 ∨ p = 4 ∨ p = 5 := by omega
        rcases this with g | g | g | g | g | g <;> subst g <;> rfl
      · rw [show R00 13 = 0 from rfl, b_0]; rfl
    · intro h; rw [h0] at h; exact absurd h (by decide)
    · rw [hE]; rfl
    · intro q _; rw [hE]; exact ⟨rfl, rfl, rfl, rfl⟩
    · intro c hc; rw [hE, im_37 w c hc]; rfl
    · intro i hi; rw [hE] at hi; exact absurd hi (Nat.not_lt_zero i)
  · exact ⟨⟨0, by omega, rfl, rfl, fun i hi => absurd hi (Nat.not_lt_zero i)⟩, fun s _ => ⟨rfl, fun h => absurd h (show ¬ (0 : Int32) = 1 by decide)⟩, rfl, fun i hi => absurd hi (Nat.not_lt_zero i)⟩
set_option maxRecDepth 100000 in
/-- the law's run as a whole -/
theorem law_run (w : zI) (hS : w 1 0 = 30 ∧ w 1 1 = 30 ∧ w 1 2 = 100) (len : Nat) (hl : len ≤ 100000) : ∃ n' im' lm', zeRun 212 0 [some (.ref 0), none, none, none, none, none, none, none, none, none, none, none, none, none, none, none] [] (zc len 0 0 rmZ (imZ w) lmZ) = some (some (.int 1), zk (gB len n') im' lm') ∧ 154 ≤ n' ∧ n' ≤ 374 := by
  obtain ⟨e, hz⟩ := cq_41 (len := len) 0 rmZ (imZ w) lmZ (Zs_0 w)
  obtain ⟨n', im', lm', h1, h2, h3⟩ := j212_8 hl (CI_00 w hS) ⟨GD_00.2.1, rfl, rfl⟩ rfl rfl
  refine ⟨n', im', lm', ?_, h2, h3⟩
  rw [e, zc_zk (by decide +kernel) hz]
  exact (J_212_8_ok (len := len) 154 none none none none none none none none none none none none none none (IM w) lmZ) 1 n' im' lm' h1
