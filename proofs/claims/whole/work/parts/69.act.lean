/-! THE CLASS: an act as a whole -/
def xrec (r : Int32) (R : Nat → Int32) (X : zX) : zX := if okR r then xpush R X else X
theorem s21_ok {im : zI} {lm : zJ} {r : Int32} (h : okR r) : m_21 r im lm = zBd (m_20 im lm) fun _ im2 lm2 => some (r, im2, lm2) := by
  obtain ⟨h1, h2, h3, h4, h5⟩ := h
  unfold m_21
  rw [if_neg h1, if_neg h2, if_neg h3, if_neg h4, if_pos rfl, if_neg h5]
theorem s21_no {im : zI} {lm : zJ} {r : Int32} (h : ¬ okR r) : m_21 r im lm = some (r, im, lm) := by
  unfold m_21
  by_cases h1 : r = -10000001
  · rw [if_pos h1, if_neg (by decide)]
  · by_cases h2 : r = -10000002
    · rw [if_neg h1, if_pos h2, if_neg (by decide)]
    · by_cases h3 : r = -10000003
      · rw [if_neg h1, if_neg h2, if_pos h3, if_neg (by decide)]
      · by_cases h4 : r = -10000004
        · rw [if_neg h1, if_neg h2, if_neg h3, if_pos h4, if_neg (by decide)]
        · by_cases h5 : r = -10000005
          · rw [if_neg h1, if_neg h2, if_neg h3, if_neg h4, if_pos rfl, if_pos h5]
          · exact absurd ⟨h1, h2, h3, h4, h5⟩ h
def FA (im im' : zI) : Prop := ∀ a, (a < 16 ∨ 168 ≤ a) → im' a = im a
def actW (D : zI → zJ → zR) (im : zI) (lm : zJ) : zR := zBd (m_15 im lm) fun _ im1 lm1 => zBd (D im1 lm1) fun v2 im2 lm2 => zBd (m_21 v2 im2 lm2) fun v3 im3 lm3 => some (v3, im3, lm3)
/-- what is said of an act without its record -/
def DoC (D : zI → zJ → zR) (R : Nat → Int32) (q r : Int32) (R' : Nat → Int32) (q' : Int32) : Prop := ∀ im lm, NW im lm R q → ∃ im' lm', D im lm = some (r, im', lm') ∧ NW im' lm' R' q' ∧ FN im lm im' lm'
theorem sW {D : zI → zJ → zR} {R R' : Nat → Int32} {q q' r : Int32} {X : zX} {im : zI} {lm : zJ} (hG : GD R) (hG' : GD R') (hX : XG X) (hc : CX im lm X) (hn : NW im lm R q) (hD : DoC D R q r R' q') : ∃ im' lm', actW D im lm = some (r, im', lm') ∧ NW im' lm' R' q' ∧ CX im' lm' (xrec r R X) ∧ FA im im' := by
  obtain ⟨im1, lm1, h1, h2, h3, h4⟩ := s15_tr hG hX hc hn
  obtain ⟨im2, lm2, h5, h6, h7⟩ := hD im1 lm1 h3
  have hT := TR_of hG hX (fun a ha _ => FN_c h7 a ha) h2
  have hF : FA im im2 := by
    intro a ha
    rcases ha with ha | ha
    · rw [← (h4 a (by omega)).1]
      funext j
      exact h7.1 a j (Or.inr (by omega)) (by omega)
    · rw [← (h4 a (by omega)).1]
      exact (FN_c h7 a (by omega)).1
  unfold actW xrec
  rw [h1, zBd_s, h5, zBd_s]
  by_cases ho : okR r
  · obtain ⟨im3, h8, h9, h10⟩ := s20 hG hX hT
    rw [s21_ok ho, h8, if_pos ho]
    refine ⟨im3, lm2, rfl, ?_, h9, ?_⟩
    · exact NW_of hG' (fun a g => ⟨h10 a (by omega), rfl⟩) h6
    · intro a ha
      rw [h10 a (by omega)]
      exact hF a ha
  · rw [s21_no ho, if_neg ho]
    exact ⟨im2, lm2, rfl, h6, hT.1, hF⟩
theorem XG_push {R : Nat → Int32} {X : zX} (hG : GD R) (hX : XG X) : XG (xpush R X) := by
  obtain ⟨h1, h2, h3, h4, h5⟩ := hX
  refine ⟨?_, ?_, h3, h4, h5⟩
  · show (if xK X = 5 then 5 else xK X + 1) ≤ 5
    by_cases g : xK X = 5
    · rw [if_pos g]; omega
    · rw [if_neg g]; omega
  · intro i hi
    show GD (if xK X = 5 then (if i = 4 then R else xH X (i + 1)) else (if i = xK X then R else xH X i))
    have hi' : i < (if xK X = 5 then 5 else xK X + 1) := hi
    by_cases g : xK X = 5
    · rw [if_pos g] at hi' ⊢
      by_cases g2 : i = 4
      · rw [if_pos g2]; exact hG
      · rw [if_neg g2]; exact h2 _ (by omega)
    · rw [if_neg g] at hi' ⊢
      by_cases g2 : i = xK X
      · rw [if_pos g2]; exact hG
      · rw [if_neg g2]; exact h2 _ (by omega)
theorem XG_rec {r : Int32} {R : Nat → Int32} {X : zX} (hG : GD R) (hX : XG X) : XG (xrec r R X) := by
  unfold xrec
  by_cases h : okR r
  · rw [if_pos h]; exact XG_push hG hX
  · rw [if_neg h]; exact hX
/-! THE MODEL: history, slots, text -/
def hr (im : zI) (a i : Nat) : Nat → Int32 := fun x => if x < 360 then im a (360 * i + x) else 0
def MX (im : zI) (X : zX) : Prop := im 170 2 = nn (xK X) ∧ (∀ i, i < xK X → hr im 172 i = xH X i) ∧ (∀ s, s < 2 → im 174 s = xT X s ∧ (xT X s = 1 → hr im 173 s = xS X s)) ∧ im 170 16 = nn (xL X) ∧ ∀ i, i < xL X → im 184 i = xC X i
/-- what a check or an act of the model may change, but for its record -/
def FM (im im' : zI) : Prop := ∀ a j, ¬ (a = 170 ∧ (j = 5 ∨ j = 13 ∨ j = 20)) → ¬ a = 171 → ¬ (175 ≤ a ∧ a ≤ 183) → ¬ a = 186 → im' a j = im a j
theorem FM_r (im : zI) : FM im im := fun _ _ _ _ _ _ => rfl
theorem FM_t {im im' im2 : zI} (h : FM im im') (h2 : FM im' im2) : FM im im2 := fun a j g1 g2 g3 g4 => (h2 a j g1 g2 g3 g4).trans (h a j g1 g2 g3 g4)
theorem MX_fm {im im' : zI} {X : zX} (h : FM im im') (hm : MX im X) : MX im' X := by
  obtain ⟨h1, h2, h3, h4, h5⟩ := hm
  refine ⟨?_, ?_, ?_, ?_, ?_⟩
  · rw [h 170 2 (by omega) (by omega) (by omega) (by omega)]; exact h1
  · intro i hi
    rw [← h2 i hi]
    funext x
    unfold hr
    rw [h 172 _ (by omega) (by omega) (by omega) (by omega)]
  · intro s hs
    refine ⟨?_, fun g => ?_⟩
    · rw [h 174 s (by omega) (by omega) (by omega) (by omega)]; exact (h3 s hs).1
    · rw [← (h3 s hs).2 g]
      funext x
      unfold hr
      rw [h 173 _ (by omega) (by omega) (by omega) (by omega)]
  · rw [h 170 16 (by omega) (by omega) (by omega) (by omega)]; exact h4
  · intro i hi
    rw [h 184 i (by omega) (by omega) (by omega) (by omega)]; exact h5 i hi
theorem FM_of_RpM {im im' : zI} {c0 : Int32} {k : Nat} (h : RpM im im' c0 k) : FM im im' := fun a j h1 h2 h3 h4 => h.1 a j (by omega) (by omega)
theorem s25_56 (K : Nat) (hK : K ≤ 4) (lm : zJ) : ∀ d k n (im : zI), k + d = 360 → d < n → im 170 2 = nn K → ∃ im', F_25_56 n (nn k) im lm = some (0, im', lm) ∧ im' 170 = zeU1 (im 170) 2 (nn (K + 1)) ∧ (∀ a, a ≠ 170 → a ≠ 172 → im' a = im a) ∧ ∀ j, im' 172 j = if 360 * K + k ≤ j ∧ j < 360 * K + 360 then im 171 (j - 360 * K) else im 172 j := by
  intro d
  induction d with
  | zero =>
    intro k n im hk hn h2
    obtain ⟨m, rfl⟩ : ∃ m, n = m + 1 := ⟨n - 1, by omega⟩
    have : k = 360 := by omega
    subst this
    unfold F_25_56
    rw [if_pos (show (360 : Int32) ≤ nn 360 from Int32.le_refl _), h2]
    refine ⟨_, rfl, ?_, ?_, ?_⟩
    · rw [u2r, nn_addr]
    · intro a h3 h4; rw [u2n _ _ _ _ _ h3]
    · intro j
      rw [u2n _ _ _ _ _ (by decide), if_neg (by omega)]
  | succ d ih =>
    intro k n im hk hn h2
    obtain ⟨m, rfl⟩ : ∃ m, n = m + 1 := ⟨n - 1, by omega⟩
    obtain ⟨im', h3, h4, h5, h6⟩ := ih (k + 1) m (zeU2 im 172 (360 * K + k) (im 171 k)) (by omega) (by omega) (by rw [u2n _ _ _ _ _ (by decide)]; exact h2)
    refine ⟨im', ?_, ?_, ?_, ?_⟩
    · unfold F_25_56
      have e0 : ¬ ((360 : Int32) ≤ nn k) := nn_ge k 360 (by omega) (by omega)
      rw [if_neg e0, h2]
      simp (disch := omega) only [nn_mull, nn_mulr, nn_addl, nn_addr, nn_add, nn_mul, tn_nn, tn_l, inb_nn, inb_l, zCk_t, ite_self, zBd_s]
      exact h3
    · rw [h4, u2n _ _ _ _ _ (by decide)]
    · intro a g1 g2; rw [h5 a g1 g2, u2n _ _ _ _ _ g2]
    · intro j
      rw [h6, u2n _ _ _ _ _ (by decide), u2_e]
      by_cases g : j = 360 * K + k
      · subst g
        rw [if_neg (by omega), if_pos ⟨rfl, rfl⟩, if_pos (by omega)]
        exact congrArg (im 171) (by omega)
      · by_cases g2 : 360 * K + (k + 1) ≤ j ∧ j < 360 * K + 360
        · rw [if_pos g2, if_pos (by omega)]
        · rw [if_neg g2, if_neg (fun h => g h.2), if_neg (by omega)]
theorem s25_20 (lm : zJ) : ∀ d k n (im : zI), k + d = 1440 → d < n → im 170 2 = nn 4 → ∃ im', F_25_20 n (nn k) im lm = F_25_56 2000 0 im' lm ∧ (∀ a, a ≠ 172 → im' a = im a) ∧ ∀ j, im' 172 j = if k ≤ j ∧ j < 1440 then im 172 (j + 360) else im 172 j := by
  intro d
  induction d with
  | zero =>
    intro k n im hk hn h2
    obtain ⟨m, rfl⟩ : ∃ m, n = m + 1 := ⟨n - 1, by omega⟩
    have : k = 1440 := by omega
    subst this
    unfold F_25_20
    rw [h2, if_pos (show (360 : Int32) * nn 4 ≤ nn 1440 from by decide)]
    refine ⟨im, rfl, fun _ _ => rfl, ?_⟩
    intro j
    rw [if_neg (by omega)]
  | succ d ih =>
    intro k n im hk hn h2
    obtain ⟨m, rfl⟩ : ∃ m, n = m + 1 := ⟨n - 1, by omega⟩
    obtain ⟨im', h3, h5, h6⟩ := ih (k + 1) m (zeU2 im 172 k (im 172 (k + 360))) (by omega) (by omega) (by rw [u2n _ _ _ _ _ (by decide)]; exact h2)
    refine ⟨im', ?_, ?_, ?_⟩
    · unfold F_25_20
      have e : ¬ ((360 : Int32) * nn 4 ≤ nn k) := by
        rw [show (360 : Int32) * nn 4 = nn 1440 from by decide]
        exact nn_ge k 1440 (by omega) (by omega)
      rw [h2, if_neg e]
      simp (disch := omega) only [nn_mull, nn_mulr, nn_addl, nn_addr, nn_add, nn_mul, tn_nn, tn_l, inb_nn, inb_l, zCk_t, ite_self, zBd_s]
      exact h3
    · intro a g2; rw [h5 a g2, u2n _ _ _ _ _ g2]
    · intro j
      rw [h6, u2_e, u2_e]
      by_cases g : j = k
      · subst g
        rw [if_neg (by omega), if_pos ⟨rfl, rfl⟩, if_pos (by omega)]
      · by_cases g2 : k + 1 ≤ j ∧ j < 1440
        · rw [if_pos g2, if_neg (show ¬ (172 = 172 ∧ j + 360 = k) by omega), if_pos (show k ≤ j ∧ j < 1440 by omega)]
        · rw [if_neg g2, if_neg (fun h => g h.2), if_neg (by omega)]
/-- the model's record -/
theorem s25 {im : zI} {lm : zJ} {X : zX} (hX : XG X) (hm : MX im X) (h0 : ∀ j, 360 ≤ j → im 171 j = 0) : ∃ im', m_25 im lm = some (0, im', lm) ∧ MX im' (xpush (im 171) X) ∧ im' 171 = im 171 ∧ (∀ a j, a ≠ 172 → ¬ (a = 170 ∧ j = 2) → im' a j = im a j) := by
  obtain ⟨h1, h2, h3, h4, h5⟩ := hm
  have hk := hX.1
  unfold m_25
  rw [h1]
  have hfin : ∀ (im' : zI) , im' 170 = zeU1 (im 170) 2 (nn (xK (xpush (im 171) X))) → (∀ a, a ≠ 170 → a ≠ 172 → im' a = im a) → (∀ i, i < xK (xpush (im 171) X) → hr im' 172 i = xH (xpush (im 171) X) i) → MX im' (xpush (im 171) X) ∧ im' 171 = im 171 ∧ (∀ a j, a ≠ 172 → ¬ (a = 170 ∧ j = 2) → im' a j = im a j) := by
    intro im' g1 g2 g3
    have g4 : ∀ a j, a ≠ 172 → ¬ (a = 170 ∧ j = 2) → im' a j = im a j := by
      intro a j g5 g6
      by_cases g7 : a = 170
      · subst g7
        rw [g1, u1_n _ _ _ _ (fun h => g6 ⟨rfl, h⟩)]
      · rw [g2 a g7 g5]
    refine ⟨⟨?_, g3, ?_, ?_, ?_⟩, g2 171 (by decide) (by decide), g4⟩
    · rw [g1, u1_s]
    · intro s hs
      refine ⟨?_, fun g => ?_⟩
      · rw [g4 174 s (by decide) (by omega)]; exact (h3 s hs).1
      · rw [show xS (xpush (im 171) X) s = xS X s from rfl, ← (h3 s hs).2 g]
        funext x
        unfold hr
        rw [g4 173 _ (by decide) (by omega)]
    · rw [g4 170 16 (by decide) (by omega)]; exact h4
    · intro i hi
      rw [g4 184 i (by decide) (by omega)]; exact h5 i hi
  by_cases g : xK X = 5
  · have e : (nn (xK X) = 5) = True := eq_true (by rw [g]; rfl)
    simp only [e, if_true]
    have e4 : nn (xK X) - 1 = nn 4 := by rw [g]; decide
    rw [e4]
    obtain ⟨im1, a1, a2, a3⟩ := s25_20 lm 1440 0 2000 (zeU2 im 170 2 (nn 4)) rfl (by omega) (u2_s _ _ _ _)
    obtain ⟨im2, b1, b2, b3, b4⟩ := s25_56 4 (by omega) lm 360 0 2000 im1 rfl (by omega) (by rw [a2 170 (by decide), u2_s])
    refine ⟨im2, a1.trans b1, hfin im2 ?_ ?_ ?_⟩
    · rw [b2, a2 170 (by decide), u2r]
      funext j
      show zeU1 (zeU1 (im 170) 2 (nn 4)) 2 (nn 5) j = zeU1 (im 170) 2 (nn (if xK X = 5 then 5 else xK X + 1)) j
      rw [if_pos g, u1e, u1e, u1e]
      by_cases gj : j = 2
      · rw [if_pos gj, if_pos gj]
      · rw [if_neg gj, if_neg gj, if_neg gj]
    · intro a g1 g2; rw [b3 a g1 g2, a2 a g2, u2n _ _ _ _ _ g1]
    · intro i hi
      have hi' : i < (if xK X = 5 then 5 else xK X + 1) := hi
      rw [if_pos g] at hi'
      show _ = (if xK X = 5 then (if i = 4 then im 171 else xH X (i + 1)) else (if i = xK X then im 171 else xH X i))
      rw [if_pos g]
      by_cases gi : i = 4
      · rw [if_pos gi]
        funext x
        unfold hr
        by_cases gx : x < 360
        · rw [if_pos gx, b4, if_pos (by omega), a2 171 (by decide), u2n _ _ _ _ _ (by decide)]
          exact congrArg (im 171) (by omega)
        · rw [if_neg gx, h0 x (by omega)]
      · rw [if_neg gi, ← h2 (i + 1) (by omega)]
        funext x
        unfold hr
        by_cases gx : x < 360
        · rw [if_pos gx, if_pos gx, b4, if_neg (by omega), a3, if_pos (by omega), u2n _ _ _ _ _ (by decide)]
          exact congrArg (im 172) (by omega)
        · rw [if_neg gx, if_neg gx]
  · have e : (nn (xK X) = 5) = False := eq_false (by rw [show (5 : Int32) = nn 5 from rfl, nn_inj _ _ (by omega) (by omega)]; exact g)
    simp only [e, if_false]
    obtain ⟨im2, b1, b2, b3, b4⟩ := s25_56 (xK X) (by omega) lm 360 0 2000 im rfl (by omega) h1
    refine ⟨im2, b1, hfin im2 ?_ b3 ?_⟩
    · rw [b2]
      show _ = zeU1 (im 170) 2 (nn (if xK X = 5 then 5 else xK X + 1))
      rw [if_neg g]
    · intro i hi
      have hi' : i < (if xK X = 5 then 5 else xK X + 1) := hi
      rw [if_neg g] at hi'
      show _ = (if xK X = 5 then (if i = 4 then im 171 else xH X (i + 1)) else (if i = xK X then im 171 else xH X i))
      rw [if_neg g]
      by_cases gi : i = xK X
      · rw [if_pos gi]
        funext x
        unfold hr
        by_cases gx : x < 360
        · rw [if_pos gx, b4, if_pos (by omega)]
          exact congrArg (im 171) (by omega)
        · rw [if_neg gx, h0 x (by omega)]
      · rw [if_neg gi, ← h2 i (by omega)]
        funext x
        unfold hr
        by_cases gx : x < 360
        · rw [if_pos gx, if_pos gx, b4, if_neg (by omega)]
        · rw [if_neg gx, if_neg gx]
