/-! UNDO, KEEP, RESTORE *-/
theorem s14_b (im : zI) (lm : zJ) (t : Nat) (ht : t < 6) (D : Nat → zI → zJ → zR) (h0 : ∀ im lm, D 0 im lm = m_145_44 im lm) (h1 : ∀ im lm, D 1 im lm = m_145_59 im lm) (h2 : ∀ im lm, D 2 im lm = m_145_74 im lm) (h3 : ∀ im lm, D 3 im lm = m_145_89 im lm) (h4 : ∀ im lm, D 4 im lm = m_145_104 im lm) (h5 : ∀ im lm, D 5 im lm = m_145_119 im lm) : D t im lm = zBd (m_76 (cpI im 17 (44 + 15 * t)) (cpL lm 17 (44 + 15 * t))) fun _ im2 lm2 => some (0, im2, lm2) := by
  have : t = 0 ∨ t = 1 ∨ t = 2 ∨ t = 3 ∨ t = 4 ∨ t = 5 := by omega
  rcases this with g | g | g | g | g | g <;> subst g
  · rw [h0]; rfl
  · rw [h1]; rfl
  · rw [h2]; rfl
  · rw [h3]; rfl
  · rw [h4]; rfl
  · rw [h5]; rfl
/-- a State loaded, and its replay -/
theorem ld_NW {R' : Nat → Int32} {q : Int32} {im : zI} {lm : zJ} {b : Nat} (hb : 32 ≤ b) (hG : GD R') (hc : CR im lm b R') (hq : im 16 7 = q) (hs : im 1 0 = 30 ∧ im 1 1 = 30 ∧ im 1 2 = 100) : ∃ im2, m_76 (cpI im 17 b) (cpL lm 17 b) = some (0, im2, cpL lm 17 b) ∧ NW im2 (cpL lm 17 b) R' q ∧ ∀ a, (a < 17 ∨ 40 < a) → im2 a = im a ∧ cpL lm 17 b a = lm a := by
  have hcp : CR (cpI im 17 b) (cpL lm 17 b) 17 R' := CR_cp (cp_rg im lm 17 b (Or.inl (by omega))) (GD_E hG) hc
  have hf : ∀ a, (a < 17 ∨ 32 ≤ a) → cpI im 17 b a = im a ∧ cpL lm 17 b a = lm a := fun a ha => cp_fr im lm 17 b a (by omega)
  obtain ⟨im2, h1, h2, h3⟩ := rep_NW (q := q) hG hcp (by rw [(hf 16 (by omega)).1]; exact hq) (by rw [(hf 1 (by omega)).1]; exact hs)
  refine ⟨im2, h1, h2, fun a ha => ⟨?_, (hf a (by omega)).2⟩⟩
  rw [← (hf a (by omega)).1]
  funext j
  exact h3 a j (by omega)
def xundo (X : zX) : zX := (xK X - 1, xH X, xT X, xS X, xL X, xC X)
theorem CX_cells {im im' : zI} {lm lm' : zJ} {X : zX} (hX : XG X) (h : ∀ a, 43 ≤ a → a < 168 → im' a = im a ∧ lm' a = lm a) (hc : CX im lm X) : (∀ s, s < 2 → im' 165 s = xT X s ∧ (xT X s = 1 → CR im' lm' (135 + 15 * s) (xS X s))) ∧ im' 166 0 = nn (xL X) ∧ ∀ i, i < xL X → im' 167 i = xC X i := by
  obtain ⟨_, h4, h5, h6⟩ := hc
  refine ⟨?_, ?_, ?_⟩
  · intro s hs
    rw [(h 165 (by decide) (by decide)).1]
    refine ⟨(h4 s hs).1, fun g => ?_⟩
    have hg : GD (xS X s) := by
      rcases hX.2.2.1 s hs with g2 | g2
      · rw [g] at g2; exact absurd g2 (by decide)
      · exact g2.2
    exact CR_same (GD_E hg) (fun j hj => h _ (by omega) (by omega)) ((h4 s hs).2 g)
  · rw [(h 166 (by decide) (by decide)).1]; exact h5
  · rw [(h 167 (by decide) (by decide)).1]; exact h6
theorem s144 (im : zI) (lm : zJ) (K t : Nat) (hK : 0 < K) (hK5 : K ≤ 5) (ht : t < 6) (h0 : im 42 0 = nn K) (h1 : im 42 1 = nn t) : m_144 im lm = some (nn (44 + 15 * ((t + 5) % 6)), zeU2 (zeU2 im 42 1 (nn ((t + 5) % 6))) 42 0 (nn (K - 1)), lm) := by
  have hk : ¬ nn K ≤ 0 := nn_ge 0 K hK (by omega)
  have e : (if nn t = 0 then (5 : Int32) else nn t - 1) = nn ((t + 5) % 6) := by
    by_cases g : t = 0
    · subst g; rfl
    · have : ¬ nn t = 0 := by rw [show (0 : Int32) = nn 0 from rfl, nn_inj _ _ (by omega) (by omega)]; exact g
      rw [if_neg this, show nn t - 1 = nn (t - 1) from nn_subr t 1 (by show 1 ≤ t; omega) (by omega)]
      congr 1; omega
  unfold m_144 J_144_25 J_144_38
  rw [h0, if_neg hk, h1, e, show nn K - 1 = nn (K - 1) from nn_subr K 1 (by show 1 ≤ K; omega) (by omega)]
  rw [u2_j _ _ _ _ _ _ (by decide), u2_s]
  simp (disch := omega) only [nn_mull, nn_mulr, nn_addl, nn_addr, nn_add, nn_mul, tn_nn, tn_l, inb_nn, inb_l, zCk_t, ite_self, zBd_s]
  have : (t + 5) % 6 = 0 ∨ (t + 5) % 6 = 1 ∨ (t + 5) % 6 = 2 ∨ (t + 5) % 6 = 3 ∨ (t + 5) % 6 = 4 ∨ (t + 5) % 6 = 5 := by omega
  rcases this with g | g | g | g | g | g <;> rw [g]
  · rw [if_pos rfl]; rfl
  · rw [if_neg (by decide), if_pos rfl]; rfl
  · rw [if_neg (by decide), if_neg (by decide), if_pos rfl]; rfl
  · rw [if_neg (by decide), if_neg (by decide), if_neg (by decide), if_pos rfl]; rfl
  · rw [if_neg (by decide), if_neg (by decide), if_neg (by decide), if_neg (by decide), if_pos rfl]; rfl
  · rw [if_neg (by decide), if_neg (by decide), if_neg (by decide), if_neg (by decide), if_neg (by decide), if_pos rfl]; rfl
theorem s146_sw (im1 : zI) (lm1 : zJ) (u : Nat) (hu : u < 6) : (if Int32.toNatClampNeg (nn (44 + 15 * u)) = 44 then zBd (m_145_44 im1 lm1) fun _ im2 lm2 => some ((im2 42 0), im2, lm2) else if Int32.toNatClampNeg (nn (44 + 15 * u)) = 59 then zBd (m_145_59 im1 lm1) fun _ im3 lm3 => some ((im3 42 0), im3, lm3) else if Int32.toNatClampNeg (nn (44 + 15 * u)) = 74 then zBd (m_145_74 im1 lm1) fun _ im4 lm4 => some ((im4 42 0), im4, lm4) else if Int32.toNatClampNeg (nn (44 + 15 * u)) = 89 then zBd (m_145_89 im1 lm1) fun _ im5 lm5 => some ((im5 42 0), im5, lm5) else if Int32.toNatClampNeg (nn (44 + 15 * u)) = 104 then zBd (m_145_104 im1 lm1) fun _ im6 lm6 => some ((im6 42 0), im6, lm6) else if Int32.toNatClampNeg (nn (44 + 15 * u)) = 119 then zBd (m_145_119 im1 lm1) fun _ im7 lm7 => some ((im7 42 0), im7, lm7) else none) = zBd (zBd (m_76 (cpI im1 17 (44 + 15 * u)) (cpL lm1 17 (44 + 15 * u))) fun _ im2 lm2 => some (0, im2, lm2)) fun _ im2 lm2 => some (im2 42 0, im2, lm2) := by
  rw [tn_nn _ (by omega)]
  have : u = 0 ∨ u = 1 ∨ u = 2 ∨ u = 3 ∨ u = 4 ∨ u = 5 := by omega
  rcases this with g | g | g | g | g | g <;> subst g
  · rw [if_pos rfl]; rfl
  · rw [if_neg (by decide), if_pos rfl]; rfl
  · rw [if_neg (by decide), if_neg (by decide), if_pos rfl]; rfl
  · rw [if_neg (by decide), if_neg (by decide), if_neg (by decide), if_pos rfl]; rfl
  · rw [if_neg (by decide), if_neg (by decide), if_neg (by decide), if_neg (by decide), if_pos rfl]; rfl
  · rw [if_neg (by decide), if_neg (by decide), if_neg (by decide), if_neg (by decide), if_neg (by decide), if_pos rfl]; rfl
/-- the model's copy into the row -/
theorem s147 (lm : zJ) (K : Nat) (hK : K ≤ 4) : ∀ d k n (im : zI), k + d = 360 → d < n → im 170 2 = nn K → ∃ im', F_147_22 n (nn k) im lm = some (nn K, im', lm) ∧ (∀ a, a ≠ 171 → im' a = im a) ∧ ∀ j, im' 171 j = if k ≤ j ∧ j < 360 then im 172 (360 * K + j) else im 171 j := by
  intro d
  induction d with
  | zero =>
    intro k n im hk hn h2
    obtain ⟨m, rfl⟩ : ∃ m, n = m + 1 := ⟨n - 1, by omega⟩
    have : k = 360 := by omega
    subst this
    unfold F_147_22
    rw [if_pos (show (360 : Int32) ≤ nn 360 from Int32.le_refl _), h2]
    exact ⟨im, rfl, fun _ _ => rfl, fun j => by rw [if_neg (by omega)]⟩
  | succ d ih =>
    intro k n im hk hn h2
    obtain ⟨m, rfl⟩ : ∃ m, n = m + 1 := ⟨n - 1, by omega⟩
    have e0 : ¬ ((360 : Int32) ≤ nn k) := nn_ge k 360 (by omega) (by omega)
    obtain ⟨im', h3, h5, h6⟩ := ih (k + 1) m (zeU2 im 171 k (im 172 (360 * K + k))) (by omega) (by omega) (by rw [u2n _ _ _ _ _ (by decide)]; exact h2)
    refine ⟨im', ?_, ?_, ?_⟩
    · unfold F_147_22
      rw [if_neg e0, h2]
      simp (disch := omega) only [nn_mull, nn_mulr, nn_addl, nn_addr, nn_add, nn_mul, tn_nn, tn_l, inb_nn, inb_l, zCk_t, ite_self, zBd_s]
      exact h3
    · intro a g2; rw [h5 a g2, u2n _ _ _ _ _ g2]
    · intro j
      rw [h6, u2n _ _ _ _ _ (by decide), u2_e]
      by_cases g : j = k
      · subst g
        rw [if_neg (show ¬ (j + 1 ≤ j ∧ j < 360) by omega), if_pos (show 171 = 171 ∧ j = j from ⟨rfl, rfl⟩), if_pos (show j ≤ j ∧ j < 360 by omega)]
      · rw [if_neg (show ¬ (171 = 171 ∧ j = k) from fun h => g h.2)]
        by_cases g2 : k + 1 ≤ j ∧ j < 360
        · rw [if_pos g2, if_pos (show k ≤ j ∧ j < 360 by omega)]
        · rw [if_neg g2, if_neg (show ¬ (k ≤ j ∧ j < 360) by omega)]
theorem st_146 : StE m_146 m_147 := by
  rintro im lm ⟨R, q, X, hG, hX, hn, hc, hR, hq, hm⟩
  obtain ⟨⟨t, ht, k1, k2, k3⟩, k4, k5, k6⟩ := id hc
  have hK5 := hX.1
  have hz : (nn (xK X) = 0) = (xK X = 0) := by rw [show (0 : Int32) = nn 0 from rfl]; exact nn_inj _ _ (by omega) (by omega)
  by_cases g : xK X = 0
  · refine ⟨-10000005, im, lm, im, ?_, ?_, ⟨R, q, X, hG, hX, hn, hc, hR, hq, hm⟩, fun _ _ => rfl, rfl⟩
    · unfold m_146; rw [k1, g, if_pos (show nn 0 = 0 from rfl)]
    · unfold m_147; rw [hm.1, g, if_pos (show nn 0 = 0 from rfl)]
  · have hKp : 0 < xK X := by omega
    have hGH := hX.2.1 (xK X - 1) (by omega)
    have hb := k3 (xK X - 1) (by omega)
    rw [show (t + 6 - xK X + (xK X - 1)) % 6 = (t + 5) % 6 by omega] at hb
    generalize hu : (t + 5) % 6 = u at hb
    have hu6 : u < 6 := by omega
    have hcb : CR (zeU2 (zeU2 im 42 1 (nn u)) 42 0 (nn (xK X - 1))) lm (44 + 15 * u) (xH X (xK X - 1)) := CR_same (GD_E hGH) (fun i hi => ⟨by rw [u2n _ _ _ _ _ (by omega), u2n _ _ _ _ _ (by omega)], rfl⟩) hb
    obtain ⟨im2, a1, a2, a3⟩ := ld_NW (q := q) (b := 44 + 15 * u) (by omega) hGH hcb (by rw [u2n _ _ _ _ _ (by decide), u2n _ _ _ _ _ (by decide)]; exact hn.2.2.1) (by rw [u2n _ _ _ _ _ (by decide), u2n _ _ _ _ _ (by decide)]; exact hn.2.2.2)
    have hf : ∀ a, (a < 17 ∨ 40 < a) → a ≠ 42 → im2 a = im a ∧ cpL lm 17 (44 + 15 * u) a = lm a := fun a h1 h2 => by
      refine ⟨?_, (a3 a h1).2⟩
      rw [(a3 a h1).1, u2n _ _ _ _ _ h2, u2n _ _ _ _ _ h2]
    have f42 : im2 42 0 = nn (xK X - 1) ∧ im2 42 1 = nn u := by
      rw [(a3 42 (by omega)).1, u2_s, u2_j _ _ _ _ _ _ (by decide), u2_s]; exact ⟨rfl, rfl⟩
    have hC : m_146 im lm = some (nn (xK X - 1), im2, cpL lm 17 (44 + 15 * u)) := by
      unfold m_146
      rw [k1]
      simp only [hz, g, if_false]
      rw [s144 im lm (xK X) t hKp hK5 ht k1 k2, zBd_s, hu, s146_sw _ _ u hu6, a1, zBd_s, zBd_s, f42.1]
    have hm2 : im2 170 2 = nn (xK X) := by rw [(hf 170 (by omega) (by decide)).1]; exact hm.1
    obtain ⟨im3, b1, b2, b3⟩ := s147 (cpL lm 17 (44 + 15 * u)) (xK X - 1) (by omega) 360 0 2000 (zeU2 im2 170 2 (nn (xK X - 1))) rfl (by omega) (u2_s _ _ _ _)
    have b2' : ∀ a, a ≠ 170 → a ≠ 171 → im3 a = im2 a := fun a h1 h2 => by rw [b2 a h2, u2n _ _ _ _ _ h1]
    have h170 : ∀ j, j ≠ 2 → im3 170 j = im 170 j := fun j hj => by rw [b2 170 (by decide), u2_j _ _ _ _ _ _ hj, (hf 170 (by omega) (by decide)).1]
    have hx : ∀ a, 170 < a → a ≠ 171 → im3 a = im a := fun a h1 h2 => by rw [b2' a (by omega) h2, (hf a (by omega) (by omega)).1]
    refine ⟨nn (xK X - 1), im2, cpL lm 17 (44 + 15 * u), im3, hC, ?_, ?_, ?_, (hf 0 (Or.inl (by decide)) (by decide)).1⟩
    · unfold m_147
      rw [hm2]
      simp only [hz, g, if_false]
      rw [show nn (xK X) - 1 = nn (xK X - 1) from nn_subr (xK X) 1 (by show 1 ≤ xK X; omega) (by omega)]
      exact b1
    · refine iv_mk (R' := xH X (xK X - 1)) (X' := xundo X) (q' := q) hGH ?_ a2 ?_ (fun a ha => b2' a (by omega) (by omega)) ?_ ?_ ?_
      · exact ⟨by show xK X - 1 ≤ 5; omega, fun i hi => hX.2.1 i (by have hi : i < xK X - 1 := hi; omega), hX.2.2.1, hX.2.2.2.1, hX.2.2.2.2⟩
      · refine ⟨⟨u, hu6, f42.1, f42.2, ?_⟩, CX_cells (X := X) hX (fun a h1 h2 => hf a (by omega) (by omega)) hc⟩
        intro i hi
        have hi : i < xK X - 1 := hi
        show CR im2 _ (44 + 15 * ((u + 6 - (xK X - 1) + i) % 6)) (xH X i)
        rw [show (u + 6 - (xK X - 1) + i) % 6 = (t + 6 - xK X + i) % 6 by omega]
        exact CR_same (GD_E (hX.2.1 i (by omega))) (fun j hj => hf _ (by omega) (by omega)) (k3 i (by omega))
      · funext j
        rw [b3, ← hm.2.1 (xK X - 1) (by omega), u2n _ _ _ _ _ (by decide), u2n _ _ _ _ _ (by decide), (hf 171 (by omega) (by decide)).1, (hf 172 (by omega) (by decide)).1, hR]
        unfold hr
        by_cases gj : j < 360
        · rw [if_pos ⟨Nat.zero_le _, gj⟩, if_pos gj]
        · rw [if_neg (fun h => gj h.2), if_neg gj]
          exact GD_z hG j (by omega)
      · rw [h170 5 (by decide)]; exact hq
      · obtain ⟨m1, m2, m3, m4, m5⟩ := hm
        refine ⟨?_, ?_, ?_, ?_, ?_⟩
        · rw [b2 170 (by decide), u2_s]; rfl
        · intro i hi
          have hi : i < xK X - 1 := hi
          refine Eq.trans ?_ (m2 i (by omega)); unfold hr; rw [hx 172 (by decide) (by decide)]
        · intro s hs
          rw [hx 174 (by decide) (by decide)]
          refine ⟨(m3 s hs).1, fun gs => ?_⟩
          refine Eq.trans ?_ ((m3 s hs).2 gs); unfold hr; rw [hx 173 (by decide) (by decide)]
        · rw [h170 16 (by decide)]; exact m4
        · rw [hx 184 (by decide) (by decide)]; exact m5
    · intro a ha
      rw [b2' a (by omega) (by omega)]
      exact (hf a (by omega) (by omega)).1
/-! keep -/
def xkeep (X : zX) (s : Nat) (R : Nat → Int32) : zX := (xK X, xH X, zeU1 (xT X) s 1, zeU1 (xS X) s R, xL X, xC X)
theorem s150 (lm : zJ) (s : Nat) (hs : s < 2) : ∀ d k n (im : zI), k + d = 360 → d < n → ∃ im', F_150_14 n (nn s) (nn k) im lm = some (im 171 5, im', lm) ∧ (∀ a, a ≠ 173 → a ≠ 174 → im' a = im a) ∧ im' 174 = zeU1 (im 174) s 1 ∧ ∀ j, im' 173 j = if 360 * s + k ≤ j ∧ j < 360 * s + 360 then im 171 (j - 360 * s) else im 173 j := by
  intro d
  induction d with
  | zero =>
    intro k n im hk hn
    obtain ⟨m, rfl⟩ : ∃ m, n = m + 1 := ⟨n - 1, by omega⟩
    have : k = 360 := by omega
    subst this
    unfold F_150_14
    rw [if_pos (show (360 : Int32) ≤ nn 360 from Int32.le_refl _)]
    simp (disch := omega) only [nn_mull, nn_mulr, nn_addl, nn_addr, nn_add, nn_mul, tn_nn, tn_l, inb_nn, inb_l, zCk_t, ite_self, zBd_s, nar_1]
    refine ⟨_, rfl, fun a h1 h2 => u2n _ _ _ _ _ h2, u2r _ _ _ _, fun j => ?_⟩
    rw [u2n _ _ _ _ _ (by decide), if_neg (by omega)]
  | succ d ih =>
    intro k n im hk hn
    obtain ⟨m, rfl⟩ : ∃ m, n = m + 1 := ⟨n - 1, by omega⟩
    have e0 : ¬ ((360 : Int32) ≤ nn k) := nn_ge k 360 (by omega) (by omega)
    obtain ⟨im', h3, h5, h6, h7⟩ := ih (k + 1) m (zeU2 im 173 (360 * s + k) (im 171 k)) (by omega) (by omega)
    rw [u2n _ _ _ _ _ (by decide)] at h3 h6
    refine ⟨im', ?_, ?_, h6, ?_⟩
    · unfold F_150_14
      rw [if_neg e0]
      simp (disch := omega) only [nn_mull, nn_mulr, nn_addl, nn_addr, nn_add, nn_mul, tn_nn, tn_l, inb_nn, inb_l, zCk_t, ite_self, zBd_s]
      exact h3
    · intro a g1 g2; rw [h5 a g1 g2, u2n _ _ _ _ _ g1]
    · intro j
      rw [h7, u2n _ _ _ _ _ (by decide), u2_e]
      by_cases g : j = 360 * s + k
      · subst g
        rw [if_neg (show ¬ (360 * s + (k + 1) ≤ 360 * s + k ∧ 360 * s + k < 360 * s + 360) by omega), if_pos (show 173 = 173 ∧ 360 * s + k = 360 * s + k from ⟨rfl, rfl⟩), if_pos (show 360 * s + k ≤ 360 * s + k ∧ 360 * s + k < 360 * s + 360 by omega)]
        exact congrArg (im 171) (by omega)
      · rw [if_neg (show ¬ (173 = 173 ∧ j = 360 * s + k) from fun h => g h.2)]
        by_cases g2 : 360 * s + (k + 1) ≤ j ∧ j < 360 * s + 360
        · rw [if_pos g2, if_pos (show 360 * s + k ≤ j ∧ j < 360 * s + 360 by omega)]
        · rw [if_neg g2, if_neg (show ¬ (360 * s + k ≤ j ∧ j < 360 * s + 360) by omega)]
theorem sl_cls (x : Int32) : (if x < 0 then 0 else if 1 < x then 0 else 1 : Int32) = (if x < 0 then 0 else if 2 ≤ x then 0 else 1) := by
  have : (1 < x) = (2 ≤ x) := by
    apply propext
    rw [Int32.lt_iff_toInt_lt, Int32.le_iff_toInt_le]
    have e1 : (1 : Int32).toInt = 1 := by decide +kernel
    have e2 : (2 : Int32).toInt = 2 := by decide +kernel
    omega
  simp only [this]
theorem s149 (im : zI) (lm : zJ) (s : Nat) (hs : s < 2) : m_149 (nn s) im lm = some (im 26 0, zeU2 (cpI im (135 + 15 * s) 17) 165 s 1, cpL lm (135 + 15 * s) 17) := by
  have py : (if nn s < 0 then 0 else if (2 : Int32) ≤ nn s then 0 else 1 : Int32) = 1 := (ix_yes (n := 2) (N := 2) rfl (by omega) hs).1
  have h26 : cpI im (135 + 15 * s) 17 26 = im 26 := (cp_fr im lm (135 + 15 * s) 17 26 (Or.inl (by omega))).1
  unfold m_149
  rw [py, if_neg (by decide)]
  simp (disch := omega) only [nn_mull, nn_mulr, nn_addl, nn_addr, nn_add, nn_mul, tn_nn, tn_l, inb_nn, inb_l, zCk_t, ite_self, zBd_s, nar_1]
  have : s = 0 ∨ s = 1 := by omega
  rcases this with g | g <;> subst g
  · rw [if_pos rfl, s14_135_17, zBd_s, h26]
  · rw [if_neg (by decide), if_pos rfl, s14_150_17, zBd_s, h26]
theorem st_149 (x : Int32) : StE (m_149 x) (m_150 x) := by
  rintro im lm ⟨R, q, X, hG, hX, hn, hc, hR, hq, hm⟩
  rcases ix_cases (n := 2) (N := 2) rfl (by omega) x with h | ⟨s, hs, rfl⟩
  · refine ⟨-10000001, im, lm, im, ?_, ?_, ⟨R, q, X, hG, hX, hn, hc, hR, hq, hm⟩, fun _ _ => rfl, rfl⟩
    · unfold m_149; rw [(ix_no (n := 2) (N := 2) rfl (by omega) h).1, if_pos rfl]
    · unfold m_150; rw [sl_cls, (ix_no (n := 2) (N := 2) rfl (by omega) h).1, if_pos rfl]
  have py : (if nn s < 0 then 0 else if (2 : Int32) ≤ nn s then 0 else 1 : Int32) = 1 := (ix_yes (n := 2) (N := 2) rfl (by omega) hs).1
  obtain ⟨⟨t, ht, k1, k2, k3⟩, k4, k5, k6⟩ := id hc
  have hcp : CR (cpI im (135 + 15 * s) 17) (cpL lm (135 + 15 * s) 17) (135 + 15 * s) R := CR_cp (cp_rg im lm _ _ (by omega)) (GD_E hG) hn.1
  have hf : ∀ a, (a < 135 + 15 * s ∨ 135 + 15 * s + 15 ≤ a) → a ≠ 165 → zeU2 (cpI im (135 + 15 * s) 17) 165 s 1 a = im a ∧ cpL lm (135 + 15 * s) 17 a = lm a := fun a h1 h2 => by
    rw [u2n _ _ _ _ _ h2]; exact cp_fr im lm _ _ a h1
  have hf165 : cpI im (135 + 15 * s) 17 165 = im 165 := (cp_fr im lm (135 + 15 * s) 17 165 (Or.inr (by omega))).1
  generalize him1 : zeU2 (cpI im (135 + 15 * s) 17) 165 s 1 = im1 at hf
  have f165 : im1 165 = zeU1 (im 165) s 1 := by rw [← him1, u2r, hf165]
  have hcs : CR im1 (cpL lm (135 + 15 * s) 17) (135 + 15 * s) R := CR_same (GD_E hG) (fun i hi => ⟨by rw [← him1, u2n _ _ _ _ _ (by omega)], rfl⟩) hcp
  obtain ⟨im2, b1, b2, b3, b4⟩ := s150 (cpL lm (135 + 15 * s) 17) s hs 360 0 2000 im1 rfl (by omega)
  have hR1 : im1 171 = R := by rw [(hf 171 (by omega) (by decide)).1]; exact hR
  refine ⟨R 5, im1, cpL lm (135 + 15 * s) 17, im2, ?_, ?_, ?_, ?_, (hf 0 (Or.inl (by omega)) (by decide)).1⟩
  · rw [s149 im lm s hs, him1]
    have : im 26 0 = R 5 := hn.1.2.2.1.1
    rw [this]
  · unfold m_150; rw [sl_cls, py, if_neg (by decide), show F_150_14 2000 (nn s) 0 im1 _ = _ from b1, hR1]
  · refine iv_mk (R' := R) (X' := xkeep X s R) (q' := q) hG ?_ ?_ ?_ (fun a ha => b2 a (by omega) (by omega)) ?_ ?_ ?_
    · refine ⟨hX.1, hX.2.1, ?_, hX.2.2.2.1, hX.2.2.2.2⟩
      intro s' hs'
      show zeU1 (xT X) s 1 s' = 0 ∨ zeU1 (xT X) s 1 s' = 1 ∧ GD (zeU1 (xS X) s R s')
      rw [u1e, u1e]
      by_cases g : s' = s
      · rw [if_pos g, if_pos g]; exact Or.inr ⟨rfl, hG⟩
      · rw [if_neg g, if_neg g]; exact hX.2.2.1 s' hs'
    · exact NW_of hG (fun a ha => hf a (by omega) (by omega)) hn
    · refine ⟨⟨t, ht, ?_, ?_, ?_⟩, ?_, ?_, ?_⟩
      · rw [(hf 42 (by omega) (by decide)).1]; exact k1
      · rw [(hf 42 (by omega) (by decide)).1]; exact k2
      · intro i hi
        have hi : i < xK X := hi
        have := hX.1
        exact CR_same (GD_E (hX.2.1 i hi)) (fun j hj => hf _ (by omega) (by omega)) (k3 i hi)
      · intro s' hs'
        show im1 165 s' = zeU1 (xT X) s 1 s' ∧ (zeU1 (xT X) s 1 s' = 1 → CR im1 _ (135 + 15 * s') (zeU1 (xS X) s R s'))
        rw [f165, u1e, u1e, u1e]
        by_cases g : s' = s
        · subst g
          rw [if_pos rfl, if_pos rfl, if_pos rfl]
          exact ⟨rfl, fun _ => hcs⟩
        · rw [if_neg g, if_neg g, if_neg g]
          refine ⟨(k4 s' hs').1, fun gs => ?_⟩
          have hgs : GD (xS X s') := by
            rcases hX.2.2.1 s' hs' with g2 | g2
            · rw [gs] at g2; exact absurd g2 (by decide)
            · exact g2.2
          exact CR_same (GD_E hgs) (fun j hj => hf _ (by omega) (by omega)) ((k4 s' hs').2 gs)
      · rw [(hf 166 (by omega) (by decide)).1]; exact k5
      · rw [(hf 167 (by omega) (by decide)).1]; exact k6
    · rw [b2 171 (by decide) (by decide)]; exact hR1
    · rw [b2 170 (by decide) (by decide), (hf 170 (by omega) (by decide)).1]; exact hq
    · obtain ⟨m1, m2, m3, m4, m5⟩ := hm
      have hx : ∀ a, 168 < a → a ≠ 173 → a ≠ 174 → im2 a = im a := fun a h1 h2 h3 => by rw [b2 a h2 h3, (hf a (by omega) (by omega)).1]
      refine ⟨?_, ?_, ?_, ?_, ?_⟩
      · rw [hx 170 (by decide) (by decide) (by decide)]; exact m1
      · intro i hi; refine Eq.trans ?_ (m2 i hi); unfold hr; rw [hx 172 (by decide) (by decide) (by decide)]
      · intro s' hs'
        show im2 174 s' = zeU1 (xT X) s 1 s' ∧ (zeU1 (xT X) s 1 s' = 1 → hr im2 173 s' = zeU1 (xS X) s R s')
        rw [b3, (hf 174 (by omega) (by decide)).1, u1e, u1e, u1e]
        by_cases g : s' = s
        · subst g
          rw [if_pos rfl, if_pos rfl, if_pos rfl]
          refine ⟨rfl, fun _ => ?_⟩
          funext j
          unfold hr
          by_cases gj : j < 360
          · rw [if_pos gj, b4, if_pos (by omega), hR1]; exact congrArg R (by omega)
          · rw [if_neg gj]; exact (GD_z hG j (by omega)).symm
        · rw [if_neg g, if_neg g, if_neg g]
          refine ⟨(m3 s' hs').1, fun gs => ?_⟩
          refine Eq.trans ?_ ((m3 s' hs').2 gs)
          funext j
          unfold hr
          by_cases gj : j < 360
          · rw [if_pos gj, if_pos gj, b4, if_neg (by omega), (hf 173 (by omega) (by decide)).1]
          · rw [if_neg gj, if_neg gj]
      · rw [hx 170 (by decide) (by decide) (by decide)]; exact m4
      · rw [hx 184 (by decide) (by decide) (by decide)]; exact m5
  · intro a ha
    rw [b2 a (by omega) (by omega)]
    exact (hf a (by omega) (by omega)).1

/-! restore -/
theorem s152 (lm : zJ) (s : Nat) (hs : s < 2) : ∀ d k n (im : zI), k + d = 360 → d < n → ∃ im', F_152_30 n (nn s) (nn k) im lm = some (im' 171 5, im', lm) ∧ (∀ a, a ≠ 171 → im' a = im a) ∧ ∀ j, im' 171 j = if k ≤ j ∧ j < 360 then im 173 (360 * s + j) else im 171 j := by
  intro d
  induction d with
  | zero =>
    intro k n im hk hn
    obtain ⟨m, rfl⟩ : ∃ m, n = m + 1 := ⟨n - 1, by omega⟩
    have : k = 360 := by omega
    subst this
    unfold F_152_30
    rw [if_pos (show (360 : Int32) ≤ nn 360 from Int32.le_refl _)]
    exact ⟨im, rfl, fun _ _ => rfl, fun j => by rw [if_neg (by omega)]⟩
  | succ d ih =>
    intro k n im hk hn
    obtain ⟨m, rfl⟩ : ∃ m, n = m + 1 := ⟨n - 1, by omega⟩
    have e0 : ¬ ((360 : Int32) ≤ nn k) := nn_ge k 360 (by omega) (by omega)
    obtain ⟨im', h3, h5, h6⟩ := ih (k + 1) m (zeU2 im 171 k (im 173 (360 * s + k))) (by omega) (by omega)
    refine ⟨im', ?_, ?_, ?_⟩
    · unfold F_152_30
      rw [if_neg e0]
      simp (disch := omega) only [nn_mull, nn_mulr, nn_addl, nn_addr, nn_add, nn_mul, tn_nn, tn_l, inb_nn, inb_l, zCk_t, ite_self, zBd_s]
      exact h3
    · intro a g2; rw [h5 a g2, u2n _ _ _ _ _ g2]
    · intro j
      rw [h6, u2n _ _ _ _ _ (by decide), u2_e]
      by_cases g : j = k
      · subst g
        rw [if_neg (show ¬ (j + 1 ≤ j ∧ j < 360) by omega), if_pos (show 171 = 171 ∧ j = j from ⟨rfl, rfl⟩), if_pos (show j ≤ j ∧ j < 360 by omega)]
      · rw [if_neg (show ¬ (171 = 171 ∧ j = k) from fun h => g h.2)]
        by_cases g2 : k + 1 ≤ j ∧ j < 360
        · rw [if_pos g2, if_pos (show k ≤ j ∧ j < 360 by omega)]
        · rw [if_neg g2, if_neg (show ¬ (k ≤ j ∧ j < 360) by omega)]
theorem s151 (im im1 im2 im3 : zI) (lm lm1 lm2 lm3 : zJ) (s : Nat) (hs : s < 2) (h1 : im 165 s = 1) (h2 : m_15 im lm = some (0, im1, lm1)) (h3 : m_76 (cpI im1 17 (135 + 15 * s)) (cpL lm1 17 (135 + 15 * s)) = some (0, im2, lm2)) (h4 : m_20 im2 lm2 = some (0, im3, lm3)) : m_151 (nn s) im lm = some (im3 26 0, im3, lm3) := by
  have py : (if nn s < 0 then 0 else if (2 : Int32) ≤ nn s then 0 else 1 : Int32) = 1 := (ix_yes (n := 2) (N := 2) rfl (by omega) hs).1
  unfold m_151
  rw [py, if_neg (by decide)]
  simp (disch := omega) only [nn_mull, nn_mulr, nn_addl, nn_addr, nn_add, nn_mul, tn_nn, tn_l, inb_nn, inb_l, zCk_t, ite_self, zBd_s, h1]
  rw [if_neg (show ¬ (1 : Int32) = 0 by decide), h2, zBd_s]
  have : s = 0 ∨ s = 1 := by omega
  rcases this with g | g <;> subst g
  · rw [if_pos rfl]
    unfold m_145_135
    rw [s14_17_135, zBd_s, show m_76 (cpI im1 17 135) (cpL lm1 17 135) = _ from h3, zBd_s, zBd_s, h4, zBd_s]
  · rw [if_neg (by decide), if_pos rfl]
    unfold m_145_150
    rw [s14_17_150, zBd_s, show m_76 (cpI im1 17 150) (cpL lm1 17 150) = _ from h3, zBd_s, zBd_s, h4, zBd_s]
theorem st_151 (x : Int32) : StE (m_151 x) (m_152 x) := by
  rintro im lm ⟨R, q, X, hG, hX, hn, hc, hR, hq, hm⟩
  rcases ix_cases (n := 2) (N := 2) rfl (by omega) x with h | ⟨s, hs, rfl⟩
  · refine ⟨-10000001, im, lm, im, ?_, ?_, ⟨R, q, X, hG, hX, hn, hc, hR, hq, hm⟩, fun _ _ => rfl, rfl⟩
    · unfold m_151; rw [(ix_no (n := 2) (N := 2) rfl (by omega) h).1, if_pos rfl]
    · unfold m_152; rw [sl_cls, (ix_no (n := 2) (N := 2) rfl (by omega) h).1, if_pos rfl]
  have py : (if nn s < 0 then 0 else if (2 : Int32) ≤ nn s then 0 else 1 : Int32) = 1 := (ix_yes (n := 2) (N := 2) rfl (by omega) hs).1
  have h165 := (hc.2.1 s hs).1
  have h174 := (hm.2.2.1 s hs).1
  rcases hX.2.2.1 s hs with hz | ⟨hz, hGs⟩
  · refine ⟨-10000005, im, lm, im, ?_, ?_, ⟨R, q, X, hG, hX, hn, hc, hR, hq, hm⟩, fun _ _ => rfl, rfl⟩
    · unfold m_151; rw [py, if_neg (by decide)]
      simp (disch := omega) only [nn_mull, nn_mulr, nn_addl, nn_addr, nn_add, nn_mul, tn_nn, tn_l, inb_nn, inb_l, zCk_t, ite_self, zBd_s, h165]
      rw [hz, if_pos rfl]
    · unfold m_152; rw [sl_cls, py, if_neg (by decide)]
      simp (disch := omega) only [nn_mull, nn_mulr, nn_addl, nn_addr, nn_add, nn_mul, tn_nn, tn_l, inb_nn, inb_l, zCk_t, ite_self, zBd_s, h174]
      rw [hz, if_pos rfl]
  obtain ⟨im1, lm1, a1, a2, a3, a4⟩ := s15_tr hG hX hc hn
  have hcs : CR im1 lm1 (135 + 15 * s) (xS X s) := (a2.1.2.1 s hs).2 hz
  obtain ⟨im2, b1, b2, b3⟩ := ld_NW (q := q) (b := 135 + 15 * s) (by omega) hGs hcs a3.2.2.1 a3.2.2.2
  have hT : TR im2 (cpL lm1 17 (135 + 15 * s)) X R := TR_of hG hX (fun a h1 h2 => b3 a (by omega)) a2
  obtain ⟨im3, c1, c2, c3⟩ := s20 hG hX hT
  have hC := s151 im im1 im2 im3 lm lm1 _ _ s hs (h165.trans hz) a1 b1 c1
  have h26 : im3 26 0 = xS X s 5 := by rw [c3 26 (by decide)]; exact b2.1.2.2.1.1
  rw [h26] at hC
  have hx3 : ∀ a, (a < 16 ∨ 168 ≤ a) → im3 a = im a := fun a ha => by rw [c3 a (by omega), (b3 a (by omega)).1, (a4 a (by omega)).1]
  have hm3 : MX im3 X := MX_fr (fun a ha => hx3 a (Or.inr (by omega))) hm
  have hR3 : im3 171 = R := by rw [hx3 171 (Or.inr (by decide))]; exact hR
  obtain ⟨im4, d1, d2, d3, d4⟩ := s25 (lm := cpL lm1 17 (135 + 15 * s)) hX hm3 (by rw [hR3]; exact GD_z hG)
  rw [hR3] at d2
  obtain ⟨im5, e1, e2, e3⟩ := s152 (cpL lm1 17 (135 + 15 * s)) s hs 360 0 2000 im4 rfl (by omega)
  have h5r : im5 171 = xS X s := by
    have hr4 : hr im4 173 s = xS X s := (d2.2.2.1 s hs).2 hz
    funext j
    rw [e3, ← hr4]
    unfold hr
    by_cases gj : j < 360
    · rw [if_pos ⟨Nat.zero_le _, gj⟩, if_pos gj]
    · rw [if_neg (fun h => gj h.2), if_neg gj, d3, hR3]; exact GD_z hG j (by omega)
  have hx4 : ∀ a, a < 170 ∨ 186 < a → im5 a = im3 a := fun a ha => by
    rw [e2 a (by omega)]; funext j; exact d4 a j (by omega) (by omega)
  refine ⟨xS X s 5, im3, cpL lm1 17 (135 + 15 * s), im5, hC, ?_, ?_, ?_, by rw [c3 0 (by decide), (b3 0 (by omega)).1, (a4 0 (by omega)).1]⟩
  · unfold m_152
    rw [sl_cls, py, if_neg (by decide)]
    have h174' : im3 174 s = 1 := by rw [hx3 174 (Or.inr (by decide))]; exact h174.trans hz
    simp (disch := omega) only [nn_mull, nn_mulr, nn_addl, nn_addr, nn_add, nn_mul, tn_nn, tn_l, inb_nn, inb_l, zCk_t, ite_self, zBd_s, h174']
    rw [if_neg (show ¬ (1 : Int32) = 0 by decide), d1, zBd_s, show F_152_30 2000 (nn s) 0 im4 _ = _ from e1, h5r]
  · refine iv_mk (R' := xS X s) (X' := xpush R X) (q' := q) hGs (XG_push hG hX) ?_ c2 hx4 h5r ?_ ?_
    · exact NW_of hGs (fun a ha => ⟨c3 a (by omega), rfl⟩) b2
    · rw [e2 170 (by decide), d4 170 5 (by decide) (by omega), hx3 170 (Or.inr (by decide))]; exact hq
    · obtain ⟨m1, m2, m3, m4, m5⟩ := d2
      refine ⟨?_, ?_, ?_, ?_, ?_⟩
      · rw [e2 170 (by decide)]; exact m1
      · intro i hi; refine Eq.trans ?_ (m2 i hi); unfold hr; rw [e2 172 (by decide)]
      · intro s' hs'
        rw [e2 174 (by decide)]
        refine ⟨(m3 s' hs').1, fun gs => ?_⟩
        refine Eq.trans ?_ ((m3 s' hs').2 gs); unfold hr; rw [e2 173 (by decide)]
      · rw [e2 170 (by decide)]; exact m4
      · rw [e2 184 (by decide)]; exact m5
  · intro a ha
    rw [hx4 a (by omega), hx3 a (by omega)]
