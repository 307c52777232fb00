/-! THE CLASS: an act as a whole -/
def xrec (r : Int32) (R : Nat → Int32) (X : zX) : zX := if okR r then xpush R X else X
theorem s21_ok {im : zI} {lm : zJ} {r : Int32} (h : okR r) : m_21 r im lm = zBd (m_20 im lm) fun _ im2 lm2 => some (r, im2, lm2) := by
  obtain ⟨h1, h2, h3, h4, h5⟩ := h
  unfold m_21
  rw [if_neg h1, if_neg h2, if_neg h3, if_neg h4, if_pos rfl, if_neg h5]
theorem s21_no {im : zI} {lm : zJ} {r : Int32} (h : ¬ okR r) : m_21 r im lm = some (r, im, lm) := by
  unfold m_21
  by_cases h1 : r = -10000001
  · rw [if_pos h1, if_neg (by decide)]
  · by_cases h2 : r = -10000002
    · rw [if_neg h1, if_pos h2, if_neg (by decide)]
    · by_cases h3 : r = -10000003
      · rw [if_neg h1, if_neg h2, if_pos h3, if_neg (by decide)]
      · by_cases h4 : r = -10000004
        · rw [if_neg h1, if_neg h2, if_neg h3, if_pos h4, if_neg (by decide)]
        · by_cases h5 : r = -10000005
          · rw [if_neg h1, if_neg h2, if_neg h3, if_neg h4, if_pos rfl, if_pos h5]
          · exact absurd ⟨h1, h2, h3, h4, h5⟩ h
def FA (im im' : zI) : Prop := ∀ a, (a < 16 ∨ 168 ≤ a) → im' a = im a
def actW (D : zI → zJ → zR) (im : zI) (lm : zJ) : zR := zBd (m_15 im lm) fun _ im1 lm1 => zBd (D im1 lm1) fun v2 im2 lm2 => zBd (m_21 v2 im2 lm2) fun v3 im3 lm3 => some (v3, im3, lm3)
/-- what is said of an act without its record -/
def DoC (D : zI → zJ → zR) (R : Nat → Int32) (q r : Int32) (R' : Nat → Int32) (q' : Int32) : Prop := ∀ im lm, NW im lm R q → ∃ im' lm', D im lm = some (r, im', lm') ∧ NW im' lm' R' q' ∧ FN im lm im' lm'
theorem sW {D : zI → zJ → zR} {R R' : Nat → Int32} {q q' r : Int32} {X : zX} {im : zI} {lm : zJ} (hG : GD R) (hG' : GD R') (hX : XG X) (hc : CX im lm X) (hn : NW im lm R q) (hD : DoC D R q r R' q') : ∃ im' lm', actW D im lm = some (r, im', lm') ∧ NW im' lm' R' q' ∧ CX im' lm' (xrec r R X) ∧ FA im im' := by
  obtain ⟨im1, lm1, h1, h2, h3, h4⟩ := s15_tr hG hX hc hn
  obtain ⟨im2, lm2, h5, h6, h7⟩ := hD im1 lm1 h3
  have hT := TR_of hG hX (fun a ha _ => FN_c h7 a ha) h2
  have hF : FA im im2 := by
    intro a ha
    rcases ha with ha | ha
    · rw [← (h4 a (by omega)).1]
      funext j
      exact h7.1 a j (Or.inr (by omega)) (by omega)
    · rw [← (h4 a (by omega)).1]
      exact (FN_c h7 a (by omega)).1
  unfold actW xrec
  rw [h1, zBd_s, h5, zBd_s]
  by_cases ho : okR r
  · obtain ⟨im3, h8, h9, h10⟩ := s20 hG hX hT
    rw [s21_ok ho, h8, if_pos ho]
    refine ⟨im3, lm2, rfl, ?_, h9, ?_⟩
    · exact NW_of hG' (fun a g => ⟨h10 a (by omega), rfl⟩) h6
    · intro a ha
      rw [h10 a (by omega)]
      exact hF a ha
  · rw [s21_no ho, if_neg ho]
    exact ⟨im2, lm2, rfl, h6, hT.1, hF⟩
theorem XG_push {R : Nat → Int32} {X : zX} (hG : GD R) (hX : XG X) : XG (xpush R X) := by
  obtain ⟨h1, h2, h3, h4, h5⟩ := hX
  refine ⟨?_, ?_, h3, h4, h5⟩
  · show (if xK X = 5 then 5 else xK X + 1) ≤ 5
    by_cases g : xK X = 5
    · rw [if_pos g]; omega
    · rw [if_neg g]; omega
  · intro i hi
    show GD (if xK X = 5 then (if i = 4 then R else xH X (i + 1)) else (if i = xK X then R else xH X i))
    have hi' : i < (if xK X = 5 then 5 else xK X + 1) := hi
    by_cases g : xK X = 5
    · rw [if_pos g] at hi' ⊢
      by_cases g2 : i = 4
      · rw [if_pos g2]; exact hG
      · rw [if_neg g2]; exact h2 _ (by omega)
    · rw [if_neg g] at hi' ⊢
      by_cases g2 : i = xK X
      · rw [if_pos g2]; exact hG
      · rw [if_neg g2]; exact h2 _ (by omega)
theorem XG_rec {r : Int32} {R : Nat → Int32} {X : zX} (hG : GD R) (hX : XG X) : XG (xrec r R X) := by
  unfold xrec
  by_cases h : okR r
  · rw [if_pos h]; exact XG_push hG hX
  · rw [if_neg h]; exact hX
/-! THE MODEL: history, slots, text -/
def hr (im : zI) (a i : Nat) : Nat → Int32 := fun x => if x < 360 then im a (360 * i + x) else 0
def MX (im : zI) (X : zX) : Prop := im 170 2 = nn (xK X) ∧ (∀ i, i < xK X → hr im 172 i = xH X i) ∧ (∀ s, s < 2 → im 174 s = xT X s ∧ (xT X s = 1 → hr im 173 s = xS X s)) ∧ im 170 16 = nn (xL X) ∧ ∀ i, i < xL X → im 184 i = xC X i
/-- what a check or an act of the model may change, but for its record -/
def FM (im im' : zI) : Prop := ∀ a j, ¬ (a = 170 ∧ (j = 5 ∨ j = 13 ∨ j = 20)) → ¬ a = 171 → ¬ (175 ≤ a ∧ a ≤ 183) → ¬ a = 186 → im' a j = im a j
theorem FM_r (im : zI) : FM im im := fun _ _ _ _ _ _ => rfl
theorem FM_t {im im' im2 : zI} (h : FM im im') (h2 : FM im' im2) : FM im im2 := fun a j g1 g2 g3 g4 => (h2 a j g1 g2 g3 g4).trans (h a j g1 g2 g3 g4)
theorem MX_fm {im im' : zI} {X : zX} (h : FM im im') (hm : MX im X) : MX im' X := by
  obtain ⟨h1, h2, h3, h4, h5⟩ := hm
  refine ⟨?_, ?_, ?_, ?_, ?_⟩
  · rw [h 170 2 (by omega) (by omega) (by omega) (by omega)]; exact h1
  · intro i hi
    rw [← h2 i hi]
    funext x
    unfold hr
    rw [h 172 _ (by omega) (by omega) (by omega) (by omega)]
  · intro s hs
    refine ⟨?_, fun g => ?_⟩
    · rw [h 174 s (by omega) (by omega) (by omega) (by omega)]; exact (h3 s hs).1
    · rw [← (h3 s hs).2 g]
      funext x
      unfold hr
      rw [h 173 _ (by omega) (by omega) (by omega) (by omega)]
  · rw [h 170 16 (by omega) (by omega) (by omega) (by omega)]; exact h4
  · intro i hi
    rw [h 184 i (by omega) (by omega) (by omega) (by omega)]; exact h5 i hi
theorem FM_of_RpM {im im' : zI} {c0 : Int32} {k : Nat} (h : RpM im im' c0 k) : FM im im' := fun a j h1 h2 h3 h4 => h.1 a j (by omega) (by omega)