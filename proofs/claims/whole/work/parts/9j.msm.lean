/-! messageAt: the model *-/
theorem FM_fw {im im' : zI} (h : FW im im') : FM im im' := fun a j h1 h2 h3 h4 => by
  by_cases g : a = 170
  · subst g; exact h.2 j (by omega)
  · rw [h.1 a g h4]
theorem MSc_fw {im im' : zI} {R : Nat → Int32} (h : FW im im') (hm : MSc im R) : MSc im' R := by
  refine ⟨(h.1 171 (by decide) (by decide)).trans hm.1, fun q hq => ?_⟩
  rw [h.1 175 (by decide) (by decide), h.1 179 (by decide) (by decide), h.1 180 (by decide) (by decide)]
  exact hm.2 q hq
theorem s211_l {R : Nat → Int32} (hG : GD R) (lm : zJ) {i : Nat} (hi : i < 2147483648) : ∀ d k N im, k + d = rN R → d < N → TM im (txt R k) → MSc im R → ∃ im', F_211_64 N (nn i) (nn k) im lm = some (((txt R (rN R))[i]?).getD (-10000005), im', lm) ∧ FW im im' := by
  have h6 := hG.1.2
  intro d
  induction d with
  | zero =>
    intro k N im hk hN hT hm
    obtain ⟨N, rfl⟩ : ∃ m, N = m + 1 := ⟨N - 1, by omega⟩
    have : k = rN R := by omega
    subst this
    have hlen := txt_len hG (rN R) (Nat.le_refl _)
    have hle : (nn (txt R (rN R)).length ≤ nn i) = ((txt R (rN R)).length ≤ i) := nn_le _ _ (by omega) hi
    refine ⟨im, ?_, FW_r im⟩
    rw [F_211_64.eq_2, hm.1, hG.1.1, if_pos (Int32.le_refl _), hT.1]
    simp only [hle]
    by_cases g : (txt R (rN R)).length ≤ i
    · simp only [g, if_true, zCk_t]
      rw [List.getElem?_eq_none g]; rfl
    · simp only [g, if_false]
      rw [inb_nn _ _ (by omega) (by omega), zCk_t, tn_nn i hi, hT.2.2 i (by omega)]; rfl
  | succ d ih =>
    intro k N im hk hN hT hm
    obtain ⟨N, rfl⟩ : ∃ m, N = m + 1 := ⟨N - 1, by omega⟩
    have hkN : k < rN R := by omega
    have hlen := txt_len hG k (by omega)
    obtain ⟨p, p1, p2, p3⟩ := pat_e hkN (-1)
    have hsc := GD_small hG p
    have hl8 := numL_len hsc
    have l2 : (numL (nn p)).length = 1 := numL_1 (by omega)
    have L1 : ∀ (l : List Int32) (x : Int32), (l ++ [x]).length = l.length + 1 := fun l x => by rw [List.length_append]; rfl
    obtain ⟨im1, a1, a2, a3⟩ := tm_209 lm hT (by omega) 59
    obtain ⟨im2, b1, b2, b3⟩ := tm_209 lm a2 (by rw [L1]; omega) 32
    obtain ⟨im3, c1, c2, c3⟩ := tm_209 lm b2 (by rw [L1, L1]; omega) 112
    obtain ⟨im4, d1, d2, d3⟩ := tm_num lm c2 (small_nn (n := p) (by omega)) (by rw [L1, L1, L1, l2]; omega)
    obtain ⟨im5, e1, e2, e3⟩ := tm_209 lm d2 (by rw [List.length_append, L1, L1, L1, l2]; omega) 32
    have hf5 : FW im im5 := FW_t a3 (FW_t b3 (FW_t c3 (FW_t d3 e3)))
    have hm5 := MSc_fw hf5 hm
    obtain ⟨im6, f1, f2, f3⟩ := tm_num lm e2 hsc (by rw [L1, List.length_append, L1, L1, L1, l2]; omega)
    have htx : txt R k ++ [59] ++ [32] ++ [112] ++ numL (nn p) ++ [32] ++ numL (sc R p) = txt R (k + 1) := by
      show _ = txt R k ++ [59, 32, 112] ++ numL (pat R k (-1)) ++ [32] ++ numL (sc R (pat R k (-1)).toNatClampNeg)
      rw [p3, tn_nn p (by omega)]
      simp only [List.append_assoc]; rfl
    rw [htx] at f2
    obtain ⟨im7, g1, g2⟩ := ih (k + 1) N im6 (by omega) (by omega) f2 (MSc_fw f3 hm5)
    refine ⟨im7, ?_, FW_t hf5 (FW_t f3 g2)⟩
    rw [F_211_64.eq_2, hm.1, hG.1.1, if_neg (nn_ge k (rN R) hkN (by omega)), s164w hG hm k (by omega), zBd_s, p2, a1, zBd_s, b1, zBd_s, c1, zBd_s, d1, zBd_s, e1, zBd_s, inb_nn _ _ (show p < 6 by omega) (by omega), zCk_t, tn_nn p (by omega), (hm5.2 p (by omega)).1, f1, zBd_s, nn_s1]
    exact g1
theorem msgM {R : Nat → Int32} (hG : GD R) {im : zI} (lm : zJ) (hR : im 171 = R) (x : Int32) (hx : ¬ x < 0) : ∃ im', m_211 x im lm = some (((txt R (rN R))[x.toNatClampNeg]?).getD (-10000005), im', lm) ∧ FM im im' ∧ im' 171 = R ∧ im' 170 5 = im 170 5 := by
  obtain ⟨x1, x2⟩ := nn_of x (Int32.not_lt.mp hx)
  have h0 := Int32.not_lt.mp hx
  generalize x.toNatClampNeg = i at x1 x2
  subst x1
  obtain ⟨im1, a1, a2, a3, a4, _, a6, _⟩ := s47g hG im lm hR
  have hm1 : MSc im1 R := ⟨a3, fun q hq => ⟨(a6 q hq).1, (a6 q hq).2.1, (a6 q hq).2.2.1⟩⟩
  have hT2 : TM (zeU2 im1 170 20 0) [] := ⟨u2_s _ _ _ _, Nat.zero_le _, fun j hj => absurd hj (Nat.not_lt_zero j)⟩
  have hF2 : FW im1 (zeU2 im1 170 20 0) := ⟨fun a g1 g2 => u2n _ _ _ _ _ g1, fun j g => u2_j _ _ _ _ _ _ g⟩
  obtain ⟨im3, b1, b2, b3⟩ := tm_209 lm hT2 (by decide) 112
  obtain ⟨im4, c1, c2, c3⟩ := tm_209 lm b2 (by decide) 104
  obtain ⟨im5, d1, d2, d3⟩ := tm_209 lm c2 (by decide) 97
  obtain ⟨im6, e1, e2, e3⟩ := tm_209 lm d2 (by decide) 115
  obtain ⟨im7, f1, f2, f3⟩ := tm_209 lm e2 (by decide) 101
  obtain ⟨im8, g1, g2, g3⟩ := tm_209 lm f2 (by decide) 32
  have hF8 : FW im1 im8 := FW_t hF2 (FW_t b3 (FW_t c3 (FW_t d3 (FW_t e3 (FW_t f3 g3)))))
  have hm8 := MSc_fw hF8 hm1
  obtain ⟨n, n1, n2⟩ := GD_r0 hG
  obtain ⟨im9, h1, h2, h3⟩ := tm_num lm g2 (small_nn (n := n) (by omega)) (by rw [numL_1 n1]; decide)
  have htx : [] ++ [112] ++ [104] ++ [97] ++ [115] ++ [101] ++ [32] ++ numL (nn n) = txt R 0 := by rw [← n2]; rfl
  rw [htx] at h2
  have h6 := hG.1.2
  obtain ⟨im10, k1, k2⟩ := s211_l hG lm x2 (rN R) 0 2000 im9 (by omega) (by omega) h2 (MSc_fw h3 hm8)
  have hFW : FW im1 im10 := FW_t hF8 (FW_t h3 k2)
  refine ⟨im10, ?_, FM_t a2 (FM_fw hFW), (hFW.1 171 (by decide) (by decide)).trans a3, by rw [hFW.2 5 (by decide), a4]⟩
  unfold m_211
  rw [if_pos h0, a1, zBd_s, b1, zBd_s, c1, zBd_s, d1, zBd_s, e1, zBd_s, f1, zBd_s, g1, zBd_s, hm8.1, n2, h1, zBd_s]
  exact k1
theorem msgM_n (x : Int32) (hx : x < 0) (im : zI) (lm : zJ) : m_211 x im lm = some (-10000002, im, lm) := by
  unfold m_211; rw [if_neg (Int32.not_le.mpr hx)]
