/-! THE CLASS: the replay as a whole -/
/-- all but the replay's own cells is as it was -/
def FrR (im im' : zI) : Prop := ∀ a j, (a < 32 ∨ 40 < a) → im' a j = im a j
theorem FrR_r (im : zI) : FrR im im := fun _ _ _ => rfl
theorem FrR_t {im im' im2 : zI} (h : FrR im im') (h2 : FrR im' im2) : FrR im im2 := fun a j g => (h2 a j g).trans (h a j g)
theorem LgR_fr {im im' : zI} {R : Nat → Int32} {E : Nat} (h : FrR im im') (h2 : LgR im 26 R E) : LgR im' 26 R E := by
  intro k hk
  obtain ⟨h1, h3, h4, h5, h6⟩ := h2 k hk
  refine ⟨?_, ?_, ?_, ?_, ?_⟩ <;> rw [h _ _ (Or.inl (by decide))] <;> assumption
theorem zfY_fr (im : zI) (k P : Nat) (s jd t a cl : Int32) (w : Bool) (b j : Nat) (h : b < 32 ∨ 40 < b) : zfY im k P s jd t a cl w b j = im b j := by
  unfold zfY
  have g : ∀ c, 32 ≤ c → c ≤ 40 → ¬ (b = c) := fun c h3 h4 h5 => by omega
  simp only [g 38 (by decide) (by decide), g 33 (by decide) (by decide), g 39 (by decide) (by decide), g 36 (by decide) (by decide), g 34 (by decide) (by decide), g 35 (by decide) (by decide), g 37 (by decide) (by decide), g 32 (by decide) (by decide), false_and, if_false]
theorem s76_l (R : Nat → Int32) (lm : zJ) (E : Nat) (hE : E ≤ 60) (hG : ∀ k, k < E → EG R k) : ∀ d k n (im : zI), k + d = E → d < n → im 26 0 = nn E → LgR im 26 R E → RpV im R k → ∃ im2, F_76_71 n (nn k) im lm = some (0, im2, lm) ∧ RpV im2 R E ∧ FrR im im2 := by
  intro d
  induction d with
  | zero =>
    intro k n im hk hn h26 hL hV
    obtain ⟨m, rfl⟩ : ∃ m, n = m + 1 := ⟨n - 1, by omega⟩
    have : k = E := by omega
    subst this
    refine ⟨im, ?_, hV, FrR_r im⟩
    unfold F_76_71
    rw [h26, if_pos (Int32.le_refl _)]
  | succ d ih =>
    intro k n im hk hn h26 hL hV
    obtain ⟨m, rfl⟩ : ∃ m, n = m + 1 := ⟨n - 1, by omega⟩
    have h0 : ¬ (nn E ≤ nn k) := by rw [nn_le _ _ (by omega) (by omega)]; omega
    have hg := hG k (by omega)
    obtain ⟨⟨hp, hP⟩, hs, _⟩ := hg
    obtain ⟨l1, l2, l3, l4, l5⟩ := hL k (by omega)
    have oc : ∀ c, c < 25 → orN (nn c) = nn c := fun c hc => by unfold orN; rw [if_neg (nn_neg c (by omega))]
    have o1 : orN (-1) = -10000005 := by decide
    have hcl : orN (R (60 + 5 * k + 2)) = -10000005 ∨ ∃ c, c < 25 ∧ orN (R (60 + 5 * k + 2)) = nn c := by
      rcases hs with ⟨c, hc, h1, _⟩ | ⟨h1, _⟩ | ⟨h1, _⟩
      · exact Or.inr ⟨c, hc, by rw [h1, oc c hc]⟩
      · exact Or.inl (by rw [h1, o1])
      · exact Or.inl (by rw [h1, o1])
    have hw : vd R k = true ↔ (R (60 + 5 * k + 1) = 1 ∧ ∃ c, c < 25 ∧ orN (R (60 + 5 * k + 2)) = nn c ∧ ¬ im 37 c = -10000005) := by
      rw [vd_iff]
      refine and_congr_right fun hs1 => ?_
      rcases hs with ⟨c, hc, h1, h2, h3, _⟩ | ⟨_, h2, _⟩ | ⟨_, h2, _⟩
      · have hb : bt (R 11) c = false := by
          cases hb : bt (R 11) c
          · rfl
          · have := h3.mp hb; rw [hs1] at this; exact absurd this (by decide)
        rw [h1, vd_sl R E c hb hG hc k (by omega), oc c hc]
        constructor
        · intro h; exact ⟨c, hc, rfl, by rw [hV.2.2.1 c hc]; exact h⟩
        · rintro ⟨c', hc', h4, h5⟩
          rw [nn_inj _ _ (by omega) (by omega)] at h4
          subst h4
          rwa [hV.2.2.1 c hc] at h5
      · rw [hs1] at h2; exact absurd h2 (by decide)
      · rw [hs1] at h2; exact absurd h2 (by decide)
    obtain ⟨im2, h1, h2⟩ := j75 im lm k (eP R k) (R (60 + 5 * k + 3)) (R (60 + 5 * k + 1)) (orN (R (60 + 5 * k + 2))) (orN (R (60 + 5 * k + 4))) (vd R k) (by omega) hP (l1.trans hp) l2 l3 l4 l5 hcl hw
    rw [(hV.2.1 _ hP).1] at h2
    have hV2 := RpV_step im im2 R k (hG k (by omega)) hV h2
    have hF : FrR im im2 := fun a j ha => by
      rw [h2, if_neg (by omega), zfY_fr _ _ _ _ _ _ _ _ _ _ _ ha]
    obtain ⟨im3, h3, h4, h5⟩ := ih (k + 1) m im2 (by omega) (by omega) (by rw [hF _ _ (Or.inl (by decide))]; exact h26) (LgR_fr hF hL) hV2
    refine ⟨im3, ?_, h4, FrR_t hF h5⟩
    unfold F_76_71
    rw [h26, if_neg h0, h1, zBd_s]
    simp (disch := omega) only [nn_mull, nn_mulr, nn_addl, nn_addr, nn_add, nn_mul, tn_nn, tn_l, inb_nn, inb_l, zCk_t, ite_self, zBd_s]
    exact h3
theorem s76_49 (lm : zJ) : ∀ d k n (im : zI), k + d = 25 → d < n → ∃ im2, F_76_49 n (nn k) im lm = F_76_71 2000 0 im2 lm ∧ (∀ a j, a ≠ 37 → im2 a j = im a j) ∧ (∀ c, c < k → im2 37 c = im 37 c) ∧ (∀ c, k ≤ c → c < 25 → im2 37 c = -10000005) := by
  intro d
  induction d with
  | zero =>
    intro k n im hk hn
    obtain ⟨m, rfl⟩ : ∃ m, n = m + 1 := ⟨n - 1, by omega⟩
    have : k = 25 := by omega
    subst this
    refine ⟨im, ?_, fun _ _ _ => rfl, fun _ _ => rfl, fun q h1 h2 => by omega⟩
    unfold F_76_49
    rw [if_pos (show (25 : Int32) ≤ nn 25 from Int32.le_refl _)]
  | succ d ih =>
    intro k n im hk hn
    obtain ⟨m, rfl⟩ : ∃ m, n = m + 1 := ⟨n - 1, by omega⟩
    have h0 : ¬ ((25 : Int32) ≤ nn k) := nn_ge k 25 (by omega) (by omega)
    obtain ⟨im2, h1, h2, h3, h4⟩ := ih (k + 1) m (zeU2 im 37 k (-10000005)) (by omega) (by omega)
    refine ⟨im2, ?_, ?_, ?_, ?_⟩
    · unfold F_76_49
      rw [if_neg h0]
      simp (disch := omega) only [nn_mull, nn_mulr, nn_addl, nn_addr, nn_add, nn_mul, tn_nn, tn_l, inb_nn, inb_l, zCk_t, ite_self, zBd_s]
      exact h1
    · intro a j h
      rw [h2 a j h]
      simp [u2_e, h]
    · intro q hq
      rw [h3 q (by omega)]
      have : q ≠ k := by omega
      simp [u2_e, this]
    · intro q hq hq6
      by_cases g : q = k
      · subst g
        rw [h3 q (by omega)]
        simp [u2_e]
      · exact h4 q (by omega) hq6
theorem s76_7 (lm : zJ) : ∀ d k n (im : zI), k + d = 6 → d < n → ∃ im2, F_76_7 n (nn k) im lm = F_76_49 2000 0 im2 lm ∧ (∀ a j, ¬ (a = 33 ∨ a = 34 ∨ a = 35 ∨ a = 36) → im2 a j = im a j) ∧ (∀ q, q < k → im2 33 q = im 33 q ∧ im2 34 q = im 34 q ∧ im2 35 q = im 35 q ∧ im2 36 q = im 36 q) ∧ (∀ q, k ≤ q → q < 6 → im2 33 q = 0 ∧ im2 34 q = 0 ∧ im2 35 q = 0 ∧ im2 36 q = 0) := by
  intro d
  induction d with
  | zero =>
    intro k n im hk hn
    obtain ⟨m, rfl⟩ : ∃ m, n = m + 1 := ⟨n - 1, by omega⟩
    have : k = 6 := by omega
    subst this
    refine ⟨im, ?_, fun _ _ _ => rfl, fun _ _ => ⟨rfl, rfl, rfl, rfl⟩, fun q h1 h2 => by omega⟩
    unfold F_76_7
    rw [if_pos (show (6 : Int32) ≤ nn 6 from Int32.le_refl _)]
  | succ d ih =>
    intro k n im hk hn
    obtain ⟨m, rfl⟩ : ∃ m, n = m + 1 := ⟨n - 1, by omega⟩
    have h0 : ¬ ((6 : Int32) ≤ nn k) := nn_ge k 6 (by omega) (by omega)
    obtain ⟨im2, h1, h2, h3, h4⟩ := ih (k + 1) m (zeU2 (zeU2 (zeU2 (zeU2 im 33 k 0) 34 k 0) 35 k 0) 36 k 0) (by omega) (by omega)
    refine ⟨im2, ?_, ?_, ?_, ?_⟩
    · unfold F_76_7
      rw [if_neg h0]
      simp (disch := omega) only [nn_mull, nn_mulr, nn_addl, nn_addr, nn_add, nn_mul, tn_nn, tn_l, inb_nn, inb_l, zCk_t, ite_self, zBd_s]
      exact h1
    · intro a j h
      rw [h2 a j h]
      simp only [not_or] at h
      simp [u2_e, h]
    · intro q hq
      obtain ⟨g1, g2, g3, g4⟩ := h3 q (by omega)
      have : q ≠ k := by omega
      rw [g1, g2, g3, g4]
      simp [u2_e, this]
    · intro q hq hq6
      by_cases g : q = k
      · subst g
        obtain ⟨g1, g2, g3, g4⟩ := h3 q (by omega)
        rw [g1, g2, g3, g4]
        simp [u2_e]
      · exact h4 q (by omega) hq6
/-- the class's replay -/
theorem s76 (R : Nat → Int32) (im : zI) (lm : zJ) (E : Nat) (hE : E ≤ 60) (hG : ∀ k, k < E → EG R k) (h26 : im 26 0 = nn E) (hL : LgR im 26 R E) : ∃ im2, m_76 im lm = some (0, im2, lm) ∧ RpV im2 R E ∧ FrR im im2 := by
  obtain ⟨im1, h1, h2, h3, h4⟩ := s76_7 lm 6 0 2000 (zeU2 im 32 0 0) rfl (by omega)
  obtain ⟨im2, h5, h6, h7, h8⟩ := s76_49 lm 25 0 2000 im1 rfl (by omega)
  have hF : FrR im im2 := fun a j ha => by
    rw [h6 a j (by omega), h2 a j (by omega), u2n _ _ _ _ _ (by omega)]
  have hV : RpV im2 R 0 := by
    refine ⟨?_, ?_, ?_, fun i h => absurd h (Nat.not_lt_zero i)⟩
    · rw [h6 32 0 (by decide), h2 32 0 (by decide), u2_s]; rfl
    · intro q hq
      obtain ⟨p1, p2, p3, p4⟩ := h4 q (Nat.zero_le q) hq
      refine ⟨?_, ?_, ?_, ?_⟩ <;> rw [h6 _ _ (by decide)] <;> assumption
    · intro c hc
      exact h8 c (Nat.zero_le c) hc
  obtain ⟨im3, h9, h10, h11⟩ := s76_l R lm E hE hG E 0 2000 im2 (by omega) (by omega) (by rw [hF _ _ (Or.inl (by decide))]; exact h26) (LgR_fr hF hL) hV
  refine ⟨im3, ?_, h10, FrR_t hF h11⟩
  unfold m_76
  exact h1.trans (h5.trans h9)
