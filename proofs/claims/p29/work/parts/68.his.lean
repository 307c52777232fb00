/-! THE CLASS: history, slots, text; an act with its record -/
abbrev zX : Type := Nat × (Nat → Nat → Int32) × (Nat → Int32) × (Nat → Nat → Int32) × Nat × (Nat → Int32)
abbrev xK (X : zX) : Nat := X.1
abbrev xH (X : zX) : Nat → Nat → Int32 := X.2.1
abbrev xT (X : zX) : Nat → Int32 := X.2.2.1
abbrev xS (X : zX) : Nat → Nat → Int32 := X.2.2.2.1
abbrev xL (X : zX) : Nat := X.2.2.2.2.1
abbrev xC (X : zX) : Nat → Int32 := X.2.2.2.2.2
def XG (X : zX) : Prop := xK X ≤ 5 ∧ (∀ i, i < xK X → GD (xH X i)) ∧ (∀ s, s < 2 → xT X s = 0 ∨ xT X s = 1 ∧ GD (xS X s)) ∧ xL X ≤ 70 ∧ ∀ i, i < xL X → ∃ c, c < 65536 ∧ xC X i = nn c
def HC (im : zI) (lm : zJ) (K : Nat) (H : Nat → Nat → Int32) : Prop := ∃ t, t < 6 ∧ im 42 0 = nn K ∧ im 42 1 = nn t ∧ ∀ i, i < K → CR im lm (44 + 15 * ((t + 6 - K + i) % 6)) (H i)
def CX (im : zI) (lm : zJ) (X : zX) : Prop := HC im lm (xK X) (xH X) ∧ (∀ s, s < 2 → im 165 s = xT X s ∧ (xT X s = 1 → CR im lm (135 + 15 * s) (xS X s))) ∧ im 166 0 = nn (xL X) ∧ ∀ i, i < xL X → im 167 i = xC X i
def NW (im : zI) (lm : zJ) (R : Nat → Int32) (q : Int32) : Prop := CR im lm 17 R ∧ RpV im R (rE R) ∧ im 16 7 = q ∧ (im 1 0 = 30 ∧ im 1 1 = 30 ∧ im 1 2 = 100)
/-- what an act may change -/
def FN (im : zI) (lm : zJ) (im' : zI) (lm' : zJ) : Prop := (∀ a j, 41 < a ∨ a ≤ 16 → ¬ (a = 16 ∧ j = 7) → im' a j = im a j) ∧ (∀ a, a ≠ 21 → a ≠ 22 → lm' a = lm a)
theorem FN_r (im : zI) (lm : zJ) : FN im lm im lm := ⟨fun _ _ _ _ => rfl, fun _ _ _ => rfl⟩
theorem FN_t {im im' im2 : zI} {lm lm' lm2 : zJ} (h : FN im lm im' lm') (h2 : FN im' lm' im2 lm2) : FN im lm im2 lm2 := ⟨fun a j g g2 => (h2.1 a j g g2).trans (h.1 a j g g2), fun a g g2 => (h2.2 a g g2).trans (h.2 a g g2)⟩
theorem FN_c {im im' : zI} {lm lm' : zJ} (h : FN im lm im' lm') (a : Nat) (ha : 41 < a) : im' a = im a ∧ lm' a = lm a := ⟨by funext j; exact h.1 a j (Or.inl ha) (by omega), h.2 a (by omega) (by omega)⟩
theorem CR_same {im im' : zI} {lm lm' : zJ} {b : Nat} {R : Nat → Int32} (hE : rE R ≤ 60) (h : ∀ i, i < 15 → im' (b + i) = im (b + i) ∧ lm' (b + i) = lm (b + i)) (hc : CR im lm b R) : CR im' lm' b R :=
  CR_cp (RgE_same (fun i hi => (h i hi).1) (fun i hi => (h i hi).2)) hE hc
theorem GD_E {R : Nat → Int32} (h : GD R) : rE R ≤ 60 := h.2.1.2
theorem CX_of {im im' : zI} {lm lm' : zJ} {X : zX} (hX : XG X) (h : ∀ a, 41 < a → a < 168 → im' a = im a ∧ lm' a = lm a) (hc : CX im lm X) : CX im' lm' X := by
  obtain ⟨⟨t, ht, h1, h2, h3⟩, h4, h5, h6⟩ := hc
  refine ⟨⟨t, ht, ?_, ?_, ?_⟩, ?_, ?_, ?_⟩
  · rw [(h 42 (by decide) (by decide)).1]; exact h1
  · rw [(h 42 (by decide) (by decide)).1]; exact h2
  · intro i hi
    exact CR_same (GD_E (hX.2.1 i hi)) (fun j hj => h _ (by omega) (by omega)) (h3 i hi)
  · intro s hs
    rw [(h 165 (by decide) (by decide)).1]
    refine ⟨(h4 s hs).1, fun g => ?_⟩
    have hg : GD (xS X s) := by
      rcases hX.2.2.1 s hs with g2 | g2
      · rw [g] at g2; exact absurd g2 (by decide)
      · exact g2.2
    exact CR_same (GD_E hg) (fun j hj => h _ (by omega) (by omega)) ((h4 s hs).2 g)
  · rw [(h 166 (by decide) (by decide)).1]; exact h5
  · rw [(h 167 (by decide) (by decide)).1]; exact h6
theorem NW_of {im im' : zI} {lm lm' : zJ} {R : Nat → Int32} {q : Int32} (hG : GD R) (h : ∀ a, a ≤ 41 → im' a = im a ∧ lm' a = lm a) (hn : NW im lm R q) : NW im' lm' R q := by
  obtain ⟨h1, ⟨h2, h3, h4, h5⟩, h6, h7⟩ := hn
  refine ⟨CR_same (GD_E hG) (fun i hi => h _ (by omega)) h1, ⟨?_, ?_, ?_, ?_⟩, ?_, ?_⟩
  · rw [(h 32 (by decide)).1]; exact h2
  · rw [(h 33 (by decide)).1, (h 34 (by decide)).1, (h 35 (by decide)).1, (h 36 (by decide)).1]; exact h3
  · rw [(h 37 (by decide)).1]; exact h4
  · rw [(h 38 (by decide)).1, (h 39 (by decide)).1, (h 40 (by decide)).1]; exact h5
  · rw [(h 16 (by decide)).1]; exact h6
  · rw [(h 1 (by decide)).1]; exact h7
theorem s15 (im : zI) (lm : zJ) (t : Nat) (ht : t < 6) (h : im 42 1 = nn t) : m_15 im lm = some (0, cpI im (44 + 15 * t) 17, cpL lm (44 + 15 * t) 17) := by
  unfold m_15
  rw [h]
  simp (disch := omega) only [nn_mull, nn_mulr, nn_addl, nn_addr, nn_add, nn_mul, tn_nn, tn_l, inb_nn, inb_l, zCk_t, ite_self, zBd_s]
  have : t = 0 ∨ t = 1 ∨ t = 2 ∨ t = 3 ∨ t = 4 ∨ t = 5 := by omega
  rcases this with g | g | g | g | g | g <;> subst g
  · rw [if_pos rfl, s14_44_17]; rfl
  · rw [if_neg (by decide), if_pos rfl, s14_59_17]; rfl
  · rw [if_neg (by decide), if_neg (by decide), if_pos rfl, s14_74_17]; rfl
  · rw [if_neg (by decide), if_neg (by decide), if_neg (by decide), if_pos rfl, s14_89_17]; rfl
  · rw [if_neg (by decide), if_neg (by decide), if_neg (by decide), if_neg (by decide), if_pos rfl, s14_104_17]; rfl
  · rw [if_neg (by decide), if_neg (by decide), if_neg (by decide), if_neg (by decide), if_neg (by decide), if_pos rfl, s14_119_17]; rfl
/-- a result that is recorded -/
abbrev okR (r : Int32) : Prop := ¬ r = -10000001 ∧ ¬ r = -10000002 ∧ ¬ r = -10000003 ∧ ¬ r = -10000004 ∧ ¬ r = -10000005
def xpush (R : Nat → Int32) (X : zX) : zX := (if xK X = 5 then 5 else xK X + 1, (fun i => if xK X = 5 then (if i = 4 then R else xH X (i + 1)) else (if i = xK X then R else xH X i)), xT X, xS X, xL X, xC X)
/-- behind prepare: the place on trial holds the row -/
def TR (im : zI) (lm : zJ) (X : zX) (R : Nat → Int32) : Prop := CX im lm X ∧ ∃ t, t < 6 ∧ im 42 1 = nn t ∧ CR im lm (44 + 15 * t) R
theorem s15_tr {im : zI} {lm : zJ} {X : zX} {R : Nat → Int32} {q : Int32} (hG : GD R) (hX : XG X) (hc : CX im lm X) (hn : NW im lm R q) : ∃ im1 lm1, m_15 im lm = some (0, im1, lm1) ∧ TR im1 lm1 X R ∧ NW im1 lm1 R q ∧ ∀ a, (a < 42 ∨ 134 ≤ a) → im1 a = im a ∧ lm1 a = lm a := by
  obtain ⟨⟨t, ht, h1, h2, h3⟩, h4, h5, h6⟩ := hc
  have hf : ∀ a, (a < 44 + 15 * t ∨ 44 + 15 * t + 15 ≤ a) → cpI im (44 + 15 * t) 17 a = im a ∧ cpL lm (44 + 15 * t) 17 a = lm a := fun a ha => cp_fr im lm _ _ a ha
  refine ⟨_, _, s15 im lm t ht h2, ⟨⟨⟨t, ht, ?_, ?_, ?_⟩, ?_, ?_, ?_⟩, t, ht, ?_, ?_⟩, ?_, ?_⟩
  · rw [(hf 42 (by omega)).1]; exact h1
  · rw [(hf 42 (by omega)).1]; exact h2
  · intro i hi
    have hk := hX.1
    exact CR_same (GD_E (hX.2.1 i hi)) (fun j hj => hf _ (by omega)) (h3 i hi)
  · intro s hs
    rw [(hf 165 (by omega)).1]
    refine ⟨(h4 s hs).1, fun g => ?_⟩
    have hg : GD (xS X s) := by
      rcases hX.2.2.1 s hs with g2 | g2
      · rw [g] at g2; exact absurd g2 (by decide)
      · exact g2.2
    exact CR_same (GD_E hg) (fun j hj => hf _ (by omega)) ((h4 s hs).2 g)
  · rw [(hf 166 (by omega)).1]; exact h5
  · rw [(hf 167 (by omega)).1]; exact h6
  · rw [(hf 42 (by omega)).1]; exact h2
  · exact CR_cp (cp_rg im lm _ _ (by omega)) (GD_E hG) hn.1
  · exact NW_of hG (fun a h8 => hf a (by omega)) hn
  · intro a ha; exact hf a (by omega)
theorem TR_of {im im' : zI} {lm lm' : zJ} {X : zX} {R : Nat → Int32} (hG : GD R) (hX : XG X) (h : ∀ a, 41 < a → a < 168 → im' a = im a ∧ lm' a = lm a) (hc : TR im lm X R) : TR im' lm' X R := by
  obtain ⟨h1, t, ht, h2, h3⟩ := hc
  refine ⟨CX_of hX h h1, t, ht, ?_, ?_⟩
  · rw [(h 42 (by decide) (by decide)).1]; exact h2
  · exact CR_same (GD_E hG) (fun j hj => h _ (by omega) (by omega)) h3
/-- commit -/
theorem s20 {im : zI} {lm : zJ} {X : zX} {R : Nat → Int32} (hG : GD R) (hX : XG X) (hc : TR im lm X R) : ∃ im1, m_20 im lm = some (0, im1, lm) ∧ CX im1 lm (xpush R X) ∧ ∀ a, a ≠ 42 → im1 a = im a := by
  obtain ⟨⟨⟨t, ht, h1, h2, h3⟩, h4, h5, h6⟩, t', ht', h7, h8⟩ := hc
  have htt : t' = t := by
    have := h7.symm.trans h2
    rwa [nn_inj _ _ (by omega) (by omega)] at this
  subst htt
  have hk := hX.1
  unfold m_20 J_20_19
  rw [h1, h2]
  refine ⟨_, rfl, ?_, ?_⟩
  · have hcell : ∀ (im1 : zI), (∀ a, a ≠ 42 → im1 a = im a) → ∀ t2, t2 < 6 → im1 42 0 = nn (xK (xpush R X)) → im1 42 1 = nn t2 → t2 = (t' + 1) % 6 → CX im1 lm (xpush R X) := by
      intro im1 hf t2 ht2 g1 g2 g3
      refine ⟨⟨t2, ht2, g1, g2, ?_⟩, ?_, ?_, ?_⟩
      · intro i hi
        show CR im1 lm (44 + 15 * ((t2 + 6 - (if xK X = 5 then 5 else xK X + 1) + i) % 6)) (if xK X = 5 then (if i = 4 then R else xH X (i + 1)) else (if i = xK X then R else xH X i))
        have hi' : i < (if xK X = 5 then 5 else xK X + 1) := hi
        by_cases h5k : xK X = 5
        · rw [if_pos h5k] at hi' ⊢
          rw [if_pos h5k]
          by_cases hi4 : i = 4
          · rw [if_pos hi4]
            have e : (t2 + 6 - 5 + i) % 6 = t' := by omega
            rw [e]
            exact CR_same (GD_E hG) (fun j hj => ⟨hf _ (by omega), rfl⟩) h8
          · rw [if_neg hi4]
            have e : (t2 + 6 - 5 + i) % 6 = (t' + 6 - xK X + (i + 1)) % 6 := by omega
            rw [e]
            exact CR_same (GD_E (hX.2.1 (i + 1) (by omega))) (fun j hj => ⟨hf _ (by omega), rfl⟩) (h3 (i + 1) (by omega))
        · rw [if_neg h5k] at hi' ⊢
          rw [if_neg h5k]
          by_cases hik : i = xK X
          · rw [if_pos hik]
            have e : (t2 + 6 - (xK X + 1) + i) % 6 = t' := by omega
            rw [e]
            exact CR_same (GD_E hG) (fun j hj => ⟨hf _ (by omega), rfl⟩) h8
          · rw [if_neg hik]
            have e : (t2 + 6 - (xK X + 1) + i) % 6 = (t' + 6 - xK X + i) % 6 := by omega
            rw [e]
            exact CR_same (GD_E (hX.2.1 i (by omega))) (fun j hj => ⟨hf _ (by omega), rfl⟩) (h3 i (by omega))
      · intro s hs
        rw [hf 165 (by decide)]
        refine ⟨(h4 s hs).1, fun g => ?_⟩
        have hg : GD (xS X s) := by
          rcases hX.2.2.1 s hs with g2 | g2
          · have g : xT X s = 1 := g
            rw [g] at g2; exact absurd g2 (by decide)
          · exact g2.2
        exact CR_same (GD_E hg) (fun j hj => ⟨hf _ (by omega), rfl⟩) ((h4 s hs).2 g)
      · rw [hf 166 (by decide)]; exact h5
      · rw [hf 167 (by decide)]; exact h6
    refine hcell _ ?_ ((t' + 1) % 6) (by omega) ?_ ?_ rfl
    · intro a ha
      by_cases g : (5 : Int32) ≤ nn (xK X)
      · rw [if_pos g, u2n _ _ _ _ _ ha]
      · rw [if_neg g, u2n _ _ _ _ _ ha, u2n _ _ _ _ _ ha]
    · show _ = nn (if xK X = 5 then 5 else xK X + 1)
      by_cases g : xK X = 5
      · rw [if_pos g, g, if_pos (by decide)]
        rw [u2_j _ _ _ _ _ _ (by decide), h1, g]
      · have : ¬ ((5 : Int32) ≤ nn (xK X)) := nn_ge _ 5 (by omega) (by omega)
        rw [if_neg g, if_neg this, u2_s, u2_j _ _ _ _ _ _ (by decide), h1, nn_addr]
    · have e : (if nn t' = 5 then (0 : Int32) else nn t' + 1) = nn ((t' + 1) % 6) := by
        by_cases g : t' = 5
        · subst g; rfl
        · have : ¬ (nn t' = 5) := by rw [show (5 : Int32) = nn 5 from rfl, nn_inj _ _ (by omega) (by omega)]; exact g
          rw [if_neg this, nn_addr]
          congr 1
          show t' + 1 = _
          omega
      rw [e]
      by_cases g : (5 : Int32) ≤ nn (xK X)
      · rw [if_pos g, u2_s]
      · rw [if_neg g, u2_j _ _ _ _ _ _ (by decide), u2_s]
  · intro a ha
    by_cases g : (5 : Int32) ≤ nn (xK X)
    · rw [if_pos g, u2n _ _ _ _ _ ha]
    · rw [if_neg g, u2n _ _ _ _ _ ha, u2n _ _ _ _ _ ha]
