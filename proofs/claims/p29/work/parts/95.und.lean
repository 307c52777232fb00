/-! UNDO, KEEP, RESTORE *-/
theorem s14_b (im : zI) (lm : zJ) (t : Nat) (ht : t < 6) (D : Nat → zI → zJ → zR) (h0 : ∀ im lm, D 0 im lm = m_145_44 im lm) (h1 : ∀ im lm, D 1 im lm = m_145_59 im lm) (h2 : ∀ im lm, D 2 im lm = m_145_74 im lm) (h3 : ∀ im lm, D 3 im lm = m_145_89 im lm) (h4 : ∀ im lm, D 4 im lm = m_145_104 im lm) (h5 : ∀ im lm, D 5 im lm = m_145_119 im lm) : D t im lm = zBd (m_76 (cpI im 17 (44 + 15 * t)) (cpL lm 17 (44 + 15 * t))) fun _ im2 lm2 => some (0, im2, lm2) := by
  have : t = 0 ∨ t = 1 ∨ t = 2 ∨ t = 3 ∨ t = 4 ∨ t = 5 := by omega
  rcases this with g | g | g | g | g | g <;> subst g
  · rw [h0]; rfl
  · rw [h1]; rfl
  · rw [h2]; rfl
  · rw [h3]; rfl
  · rw [h4]; rfl
  · rw [h5]; rfl
/-- a State loaded, and its replay -/
theorem ld_NW {R' : Nat → Int32} {q : Int32} {im : zI} {lm : zJ} {b : Nat} (hb : 32 ≤ b) (hG : GD R') (hc : CR im lm b R') (hq : im 16 7 = q) (hs : im 1 0 = 30 ∧ im 1 1 = 30 ∧ im 1 2 = 100) : ∃ im2, m_76 (cpI im 17 b) (cpL lm 17 b) = some (0, im2, cpL lm 17 b) ∧ NW im2 (cpL lm 17 b) R' q ∧ ∀ a, (a < 17 ∨ 40 < a) → im2 a = im a ∧ cpL lm 17 b a = lm a := by
  have hcp : CR (cpI im 17 b) (cpL lm 17 b) 17 R' := CR_cp (cp_rg im lm 17 b (Or.inl (by omega))) (GD_E hG) hc
  have hf : ∀ a, (a < 17 ∨ 32 ≤ a) → cpI im 17 b a = im a ∧ cpL lm 17 b a = lm a := fun a ha => cp_fr im lm 17 b a (by omega)
  obtain ⟨im2, h1, h2, h3⟩ := rep_NW (q := q) hG hcp (by rw [(hf 16 (by omega)).1]; exact hq) (by rw [(hf 1 (by omega)).1]; exact hs)
  refine ⟨im2, h1, h2, fun a ha => ⟨?_, (hf a (by omega)).2⟩⟩
  rw [← (hf a (by omega)).1]
  funext j
  exact h3 a j (by omega)
def xundo (X : zX) : zX := (xK X - 1, xH X, xT X, xS X, xL X, xC X)
theorem CX_cells {im im' : zI} {lm lm' : zJ} {X : zX} (hX : XG X) (h : ∀ a, 43 ≤ a → a < 168 → im' a = im a ∧ lm' a = lm a) (hc : CX im lm X) : (∀ s, s < 2 → im' 165 s = xT X s ∧ (xT X s = 1 → CR im' lm' (135 + 15 * s) (xS X s))) ∧ im' 166 0 = nn (xL X) ∧ ∀ i, i < xL X → im' 167 i = xC X i := by
  obtain ⟨_, h4, h5, h6⟩ := hc
  refine ⟨?_, ?_, ?_⟩
  · intro s hs
    rw [(h 165 (by decide) (by decide)).1]
    refine ⟨(h4 s hs).1, fun g => ?_⟩
    have hg : GD (xS X s) := by
      rcases hX.2.2.1 s hs with g2 | g2
      · rw [g] at g2; exact absurd g2 (by decide)
      · exact g2.2
    exact CR_same (GD_E hg) (fun j hj => h _ (by omega) (by omega)) ((h4 s hs).2 g)
  · rw [(h 166 (by decide) (by decide)).1]; exact h5
  · rw [(h 167 (by decide) (by decide)).1]; exact h6
theorem s144 (im : zI) (lm : zJ) (K t : Nat) (hK : 0 < K) (hK5 : K ≤ 5) (ht : t < 6) (h0 : im 42 0 = nn K) (h1 : im 42 1 = nn t) : m_144 im lm = some (nn (44 + 15 * ((t + 5) % 6)), zeU2 (zeU2 im 42 1 (nn ((t + 5) % 6))) 42 0 (nn (K - 1)), lm) := by
  have hk : ¬ nn K ≤ 0 := nn_ge 0 K hK (by omega)
  have e : (if nn t = 0 then (5 : Int32) else nn t - 1) = nn ((t + 5) % 6) := by
    by_cases g : t = 0
    · subst g; rfl
    · have : ¬ nn t = 0 := by rw [show (0 : Int32) = nn 0 from rfl, nn_inj _ _ (by omega) (by omega)]; exact g
      rw [if_neg this, show nn t - 1 = nn (t - 1) from nn_subr t 1 (by show 1 ≤ t; omega) (by omega)]
      congr 1; omega
  unfold m_144 J_144_25 J_144_38
  rw [h0, if_neg hk, h1, e, show nn K - 1 = nn (K - 1) from nn_subr K 1 (by show 1 ≤ K; omega) (by omega)]
  rw [u2_j _ _ _ _ _ _ (by decide), u2_s]
  simp (disch := omega) only [nn_mull, nn_mulr, nn_addl, nn_addr, nn_add, nn_mul, tn_nn, tn_l, inb_nn, inb_l, zCk_t, ite_self, zBd_s]
  have : (t + 5) % 6 = 0 ∨ (t + 5) % 6 = 1 ∨ (t + 5) % 6 = 2 ∨ (t + 5) % 6 = 3 ∨ (t + 5) % 6 = 4 ∨ (t + 5) % 6 = 5 := by omega
  rcases this with g | g | g | g | g | g <;> rw [g]
  · rw [if_pos rfl]; rfl
  · rw [if_neg (by decide), if_pos rfl]; rfl
  · rw [if_neg (by decide), if_neg (by decide), if_pos rfl]; rfl
  · rw [if_neg (by decide), if_neg (by decide), if_neg (by decide), if_pos rfl]; rfl
  · rw [if_neg (by decide), if_neg (by decide), if_neg (by decide), if_neg (by decide), if_pos rfl]; rfl
  · rw [if_neg (by decide), if_neg (by decide), if_neg (by decide), if_neg (by decide), if_neg (by decide), if_pos rfl]; rfl
theorem s146_sw (im1 : zI) (lm1 : zJ) (u : Nat) (hu : u < 6) : (if Int32.toNatClampNeg (nn (44 + 15 * u)) = 44 then zBd (m_145_44 im1 lm1) fun _ im2 lm2 => some ((im2 42 0), im2, lm2) else if Int32.toNatClampNeg (nn (44 + 15 * u)) = 59 then zBd (m_145_59 im1 lm1) fun _ im3 lm3 => some ((im3 42 0), im3, lm3) else if Int32.toNatClampNeg (nn (44 + 15 * u)) = 74 then zBd (m_145_74 im1 lm1) fun _ im4 lm4 => some ((im4 42 0), im4, lm4) else if Int32.toNatClampNeg (nn (44 + 15 * u)) = 89 then zBd (m_145_89 im1 lm1) fun _ im5 lm5 => some ((im5 42 0), im5, lm5) else if Int32.toNatClampNeg (nn (44 + 15 * u)) = 104 then zBd (m_145_104 im1 lm1) fun _ im6 lm6 => some ((im6 42 0), im6, lm6) else if Int32.toNatClampNeg (nn (44 + 15 * u)) = 119 then zBd (m_145_119 im1 lm1) fun _ im7 lm7 => some ((im7 42 0), im7, lm7) else none) = zBd (zBd (m_76 (cpI im1 17 (44 + 15 * u)) (cpL lm1 17 (44 + 15 * u))) fun _ im2 lm2 => some (0, im2, lm2)) fun _ im2 lm2 => some (im2 42 0, im2, lm2) := by
  rw [tn_nn _ (by omega)]
  have : u = 0 ∨ u = 1 ∨ u = 2 ∨ u = 3 ∨ u = 4 ∨ u = 5 := by omega
  rcases this with g | g | g | g | g | g <;> subst g
  · rw [if_pos rfl]; rfl
  · rw [if_neg (by decide), if_pos rfl]; rfl
  · rw [if_neg (by decide), if_neg (by decide), if_pos rfl]; rfl
  · rw [if_neg (by decide), if_neg (by decide), if_neg (by decide), if_pos rfl]; rfl
  · rw [if_neg (by decide), if_neg (by decide), if_neg (by decide), if_neg (by decide), if_pos rfl]; rfl
  · rw [if_neg (by decide), if_neg (by decide), if_neg (by decide), if_neg (by decide), if_neg (by decide), if_pos rfl]; rfl
/-! keep -/
def xkeep (X : zX) (s : Nat) (R : Nat → Int32) : zX := (xK X, xH X, zeU1 (xT X) s 1, zeU1 (xS X) s R, xL X, xC X)
theorem sl_cls (x : Int32) : (if x < 0 then 0 else if 1 < x then 0 else 1 : Int32) = (if x < 0 then 0 else if 2 ≤ x then 0 else 1) := by
  have : (1 < x) = (2 ≤ x) := by
    apply propext
    rw [Int32.lt_iff_toInt_lt, Int32.le_iff_toInt_le]
    have e1 : (1 : Int32).toInt = 1 := by decide +kernel
    have e2 : (2 : Int32).toInt = 2 := by decide +kernel
    omega
  simp only [this]
theorem s149 (im : zI) (lm : zJ) (s : Nat) (hs : s < 2) : m_149 (nn s) im lm = some (im 26 0, zeU2 (cpI im (135 + 15 * s) 17) 165 s 1, cpL lm (135 + 15 * s) 17) := by
  have py : (if nn s < 0 then 0 else if (2 : Int32) ≤ nn s then 0 else 1 : Int32) = 1 := (ix_yes (n := 2) (N := 2) rfl (by omega) hs).1
  have h26 : cpI im (135 + 15 * s) 17 26 = im 26 := (cp_fr im lm (135 + 15 * s) 17 26 (Or.inl (by omega))).1
  unfold m_149
  rw [py, if_neg (by decide)]
  simp (disch := omega) only [nn_mull, nn_mulr, nn_addl, nn_addr, nn_add, nn_mul, tn_nn, tn_l, inb_nn, inb_l, zCk_t, ite_self, zBd_s, nar_1]
  have : s = 0 ∨ s = 1 := by omega
  rcases this with g | g <;> subst g
  · rw [if_pos rfl, s14_135_17, zBd_s, h26]
  · rw [if_neg (by decide), if_pos rfl, s14_150_17, zBd_s, h26]
/-! restore -/
theorem s151 (im im1 im2 im3 : zI) (lm lm1 lm2 lm3 : zJ) (s : Nat) (hs : s < 2) (h1 : im 165 s = 1) (h2 : m_15 im lm = some (0, im1, lm1)) (h3 : m_76 (cpI im1 17 (135 + 15 * s)) (cpL lm1 17 (135 + 15 * s)) = some (0, im2, lm2)) (h4 : m_20 im2 lm2 = some (0, im3, lm3)) : m_151 (nn s) im lm = some (im3 26 0, im3, lm3) := by
  have py : (if nn s < 0 then 0 else if (2 : Int32) ≤ nn s then 0 else 1 : Int32) = 1 := (ix_yes (n := 2) (N := 2) rfl (by omega) hs).1
  unfold m_151
  rw [py, if_neg (by decide)]
  simp (disch := omega) only [nn_mull, nn_mulr, nn_addl, nn_addr, nn_add, nn_mul, tn_nn, tn_l, inb_nn, inb_l, zCk_t, ite_self, zBd_s, h1]
  rw [if_neg (show ¬ (1 : Int32) = 0 by decide), h2, zBd_s]
  have : s = 0 ∨ s = 1 := by omega
  rcases this with g | g <;> subst g
  · rw [if_pos rfl]
    unfold m_145_135
    rw [s14_17_135, zBd_s, show m_76 (cpI im1 17 135) (cpL lm1 17 135) = _ from h3, zBd_s, zBd_s, h4, zBd_s]
  · rw [if_neg (by decide), if_pos rfl]
    unfold m_145_150
    rw [s14_17_150, zBd_s, show m_76 (cpI im1 17 150) (cpL lm1 17 150) = _ from h3, zBd_s, zBd_s, h4, zBd_s]