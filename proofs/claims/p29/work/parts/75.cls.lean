/-! ACTS that leave log, board and buzzes alone: close, wager *-/
theorem GD_ph {R R' : Nat → Int32} (hG : GD R) (uo : ∀ j, (j = 1 ∨ (3 ≤ j ∧ j ≤ 11) ∨ 54 ≤ j) → R' j = R j) (p0 : ∃ ph, ph ≤ 6 ∧ R' 0 = nn ph)
  (c1 : (R' 0 = 1 ∨ R' 0 = 2 ∨ R' 0 = 3) → ∃ c, c < 25 ∧ R' 2 = nn c ∧ (bt (R 11) c = true ↔ ¬ R' 0 = 1) ∧ bt (R 10) c = true)
  (c2 : ¬ (R' 0 = 1 ∨ R' 0 = 2 ∨ R' 0 = 3) → R' 2 = -1) (g8 : ¬ R' 0 = 0 → 0 < rN R) (g9 : ∃ w, w ≤ 100000 ∧ R' 12 = nn w)
  (g11 : ∀ i, rN R ≤ i → bt (R' 13) i = false ∧ bt (R' 14) i = false) (g12 : ∀ p, p < 6 → bt (R' 13) p = true → 0 < R' (16 + p))
  (g13 : ∀ p, p < 6 → R' (22 + p) = -1 ∨ ∃ w, w ≤ 100000 ∧ R' (22 + p) = nn w) (g14 : R' 0 = 5 → ∀ p, p < 6 → bt (R' 13) p = true → ¬ R' (22 + p) = -1) (g15 : R' 0 = 4 → R' 14 = 0) : GD R' := by
  obtain ⟨⟨a1, a2⟩, ⟨a3, a4⟩, a5, a6, a7, a8, a9, a10, a11, a12, a13, a14, a15, a16, a17, a18⟩ := hG
  have eN : rN R' = rN R := by unfold rN; rw [uo 1 (by omega)]
  have eE : rE R' = rE R := by unfold rE; rw [uo 5 (by omega)]
  have ag : agK R R' (rE R) := fun j h1 _ => uo j (by omega)
  refine ⟨⟨by rw [uo 1 (by omega), eN]; exact a1, by omega⟩, ⟨by rw [uo 5 (by omega), eE]; exact a3, by omega⟩, ?_, p0, ?_, c2, ?_, ?_, g9, ?_, ?_, g12, g13, g14, g15, ?_⟩
  · intro k hk
    rw [eE] at hk
    exact ⟨EG_c ag hk (uo _ (by omega)) (uo _ (by omega)) (a5 k hk).1, by rw [eP_c ag hk, eN]; exact (a5 k hk).2⟩
  · rw [uo 11 (by omega), uo 10 (by omega)]; exact c1
  · rw [uo 6 (by omega), uo 7 (by omega), uo 8 (by omega), uo 3 (by omega), uo 4 (by omega)]; exact a9
  · rw [uo 10 (by omega), eN]
    rintro (h | h)
    · exact g8 h
    · exact a10 (Or.inr h)
  · rw [uo 11 (by omega), uo 10 (by omega)]; exact a12
  · rw [eN]; exact g11
  · intro j hj; rw [uo _ (by omega)]; exact a18 j hj
theorem NW_ph {im im' : zI} {lm : zJ} {R R' : Nat → Int32} {q : Int32} (uo : ∀ j, (j = 1 ∨ (3 ≤ j ∧ j ≤ 11) ∨ 28 ≤ j) → R' j = R j)
  (f : ∀ a, (a = 1 ∨ a = 16 ∨ a = 18 ∨ (26 ≤ a ∧ a ≤ 41)) → im' a = im a) (h0 : im' 17 0 = R' 0) (h17 : ∀ j, 1 ≤ j → im' 17 j = im 17 j)
  (c8 : (R' 0 = 1 ∨ R' 0 = 2 ∨ R' 0 = 3) → im' 19 0 = R' 2) (c9 : R' 0 = 3 → im' 19 3 = R' 12) (c10 : ¬ R' 0 = 1)
  (c11 : ∀ p, p < 6 → im' 25 p = orN (R' (22 + p)) ∧ im' 24 p = if bt (R' 13) p = true then R' (16 + p) else 0)
  (c12 : R' 0 = 5 → ∃ a, im' 23 0 = nn a ∧ F5 R' a) (c13 : (R' 0 = 0 ∨ R' 0 = 1 ∨ R' 0 = 2 ∨ R' 0 = 3 ∨ R' 0 = 4) → im' 23 0 = 0)
  (h : NW im lm R q) : NW im' lm R' q := by
  have eE : rE R' = rE R := by unfold rE; rw [uo 5 (by omega)]
  have ag : agK R R' (rE R) := fun j h1 _ => uo j (by omega)
  obtain ⟨⟨⟨b1, b2, b3, b4⟩, b5, ⟨b6, b7⟩, b8, b9, b10, b11, b12, b13⟩, h2, h3, h4⟩ := h
  refine ⟨⟨⟨h0, ?_, ?_, ?_⟩, ?_, ⟨?_, ?_⟩, c8, c9, fun h => absurd h c10, c11, c12, c13⟩, ?_, ?_, ?_⟩
  · rw [h17 _ (by decide), uo 1 (by omega)]; exact b2
  · rw [h17 _ (by decide), uo 11 (by omega)]; exact b3
  · rw [h17 _ (by decide), uo 10 (by omega)]; exact b4
  · intro j hj; rw [f 18 (by omega), uo _ (by omega)]; exact b5 j hj
  · rw [f 26 (by omega), uo 5 (by omega)]; exact b6
  · rw [eE]; exact LgR_im (fun i h1 h2 => f _ (by omega)) ag b7
  · rw [eE]; exact RpV_im (fun a h5 h6 => f _ (by omega)) (RpV_c ag h2)
  · rw [f 16 (by omega)]; exact h3
  · rw [f 1 (by omega)]; exact h4
/-! close -/
def cloR (R : Nat → Int32) : Nat → Int32 := zeU1 (zeU1 R 0 0) 2 (-1)
theorem cloR_e (R : Nat → Int32) : cloR R 0 = 0 ∧ cloR R 2 = -1 ∧ ∀ j, j ≠ 0 → j ≠ 2 → cloR R j = R j :=
  ⟨rfl, rfl, fun j h1 h2 => by unfold cloR; rw [u1_n _ _ _ _ h2, u1_n _ _ _ _ h1]⟩
def aClo (R : Nat → Int32) : zA := if R 0 = 1 then (nn (pop (R 14)), cloR R, 0) else (-10000003, R, 1)
theorem GD_clo {R : Nat → Int32} (hG : GD R) (h1 : R 0 = 1) : GD (cloR R) := by
  obtain ⟨e0, e2, uo⟩ := cloR_e R
  generalize cloR R = R' at e0 e2 uo
  obtain ⟨⟨a1, a2⟩, ⟨a3, a4⟩, a5, a6, a7, a8, a9, a10, a11, a12, a13, a14, a15, a16, a17, a18⟩ := id hG
  refine GD_ph hG (fun j hj => uo j (by omega) (by omega)) ⟨0, by omega, e0⟩ ?_ (fun _ => e2) ?_ ?_ ?_ ?_ ?_ ?_ ?_
  · rw [e0]; intro h; exact absurd h (by decide)
  · intro h; exact absurd e0 h
  · rw [uo 12 (by decide) (by decide)]; exact a11
  · rw [uo 13 (by decide) (by decide), uo 14 (by decide) (by decide)]; exact a13
  · intro p hp; rw [uo 13 (by decide) (by decide), uo _ (by omega) (by omega)]; exact a14 p hp
  · intro p hp; rw [uo _ (by omega) (by omega)]; exact a15 p hp
  · rw [e0]; intro h; exact absurd h (by decide)
  · rw [e0]; intro h; exact absurd h (by decide)
theorem GD_aClo {R : Nat → Int32} (hG : GD R) : GD (aClo R).2.1 := by
  unfold aClo
  by_cases g : R 0 = 1
  · rw [if_pos g]; exact GD_clo hG g
  · rw [if_neg g]; exact hG
theorem GD_14 {R : Nat → Int32} (hG : GD R) : ∀ i, 25 ≤ i → bt (R 14) i = false := fun i hi => (hG.2.2.2.2.2.2.2.2.2.2.1 i (by have := hG.1.2; omega)).2
theorem DoA_clo {R : Nat → Int32} (hG : GD R) : DoA m_92 R (aClo R) := by
  by_cases g : R 0 = 1
  · refine DoA_mk (by unfold aClo; rw [if_pos g]) ?_
    intro q im lm hn
    obtain ⟨e0, e2, uo⟩ := cloR_e R
    obtain ⟨⟨⟨b1, b2, b3, b4⟩, b5, ⟨b6, b7⟩, b8, b9, b10, b11, b12, b13⟩, _⟩ := id hn
    refine ⟨zeU2 im 17 0 0, lm, ?_, ?_, ⟨fun a j h1 h2 => by rw [u2n _ _ _ _ _ (by omega)], fun _ _ _ => rfl⟩⟩
    · unfold m_92
      rw [b1, if_pos g]
      have e14 : im 19 4 = R 14 := (b10 g).2.2.1
      rw [e14, s29 _ (GD_14 hG)]; rfl
    · refine NW_ph (fun j hj => uo j (by omega) (by omega)) (fun a ha => u2n _ _ _ _ _ (by omega)) (by rw [u2_s, e0]) (fun j hj => u2_j _ _ _ _ _ _ (by omega)) ?_ ?_ ?_ ?_ ?_ ?_ hn
      · rw [e0]; intro h; exact absurd h (by decide)
      · rw [e0]; intro h; exact absurd h (by decide)
      · rw [e0]; decide
      · intro p hp
        rw [u2n _ _ _ _ _ (by decide), u2n _ _ _ _ _ (by decide), uo _ (by omega) (by omega), uo _ (by omega) (by omega), uo _ (by omega) (by omega)]
        exact b11 p hp
      · rw [e0]; intro h; exact absurd h (by decide)
      · intro _; rw [u2n _ _ _ _ _ (by decide)]; exact b13 (Or.inr (Or.inl g))
  · refine DoA_mk (by unfold aClo; rw [if_neg g]) (ref_D' hG 1 (by decide) fun im lm q hn => ?_)
    obtain ⟨⟨⟨b1, _⟩, _⟩, _⟩ := hn
    unfold m_92; rw [b1, if_neg g]; rfl
/-! the control, the limit, wager -/
theorem zct_n {R : Nat → Int32} {E N : Nat} (hN : 0 < N) (hG : ∀ k, k < E → eP R k < N) : ∀ k, k ≤ E → ∃ c, c < N ∧ zct R 0 k = nn c := by
  intro k
  induction k with
  | zero => intro _; exact ⟨0, hN, rfl⟩
  | succ k ih =>
    intro hk
    unfold zct
    by_cases g : ¬ 3 ≤ R (60 + 5 * k + 1) ∧ R (60 + 5 * k + 4) = 1 ∧ ¬ vd R k = true
    · rw [if_pos g]; exact ⟨_, hG k (by omega), rfl⟩
    · rw [if_neg g]; exact ih (by omega)
def ctl (R : Nat → Int32) : Nat := (zct R 0 (rE R)).toNatClampNeg
theorem ctl_e {R : Nat → Int32} (hG : GD R) (hN : 0 < rN R) : zct R 0 (rE R) = nn (ctl R) ∧ ctl R < rN R := by
  obtain ⟨c, hc, h⟩ := zct_n hN (fun k hk => (hG.2.2.1 k hk).2) (rE R) (Nat.le_refl _)
  have := hG.1.2
  unfold ctl
  rw [h, tn_nn _ (by omega)]
  exact ⟨rfl, hc⟩
def limW (R : Nat → Int32) : Int32 := if sc R (ctl R) ≤ 500 then 500 else sc R (ctl R)
theorem limW_ok {R : Nat → Int32} (hG : GD R) : okR (limW R) := by
  have h := GD_sc hG (ctl R)
  apply okR_of
  unfold limW
  by_cases g : sc R (ctl R) ≤ 500
  · rw [if_pos g]; have : (500 : Int32).toInt = 500 := by decide +kernel
    omega
  · rw [if_neg g]; omega
theorem PlG_of {R : Nat → Int32} (hG : GD R) : PlG R (rE R) := fun k hk => (hG.2.2.1 k hk).1.1