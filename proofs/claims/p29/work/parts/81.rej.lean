/-! ACTS: rejudge *-/
theorem ix_no {n : Int32} {N : Nat} (e : n = nn N) (h6 : N ≤ 1000) {p : Int32} (h : p < 0 ∨ n ≤ p) : (if p < 0 then 0 else if n ≤ p then 0 else 1 : Int32) = 0 ∧ (if (if p < 0 then 0 else if n - 1 < p then 0 else 1 : Int32) = 0 then 1 else 0 : Int32) = 1 := by
  by_cases h1 : p < 0
  · simp only [h1, if_true]; decide
  · have h2 : n ≤ p := by rcases h with h | h; exact absurd h h1; exact h
    have h3 : n - 1 < p := by
      rw [e, Int32.le_iff_toInt_le, ti_nn _ (by omega)] at h2
      have e1 : (1 : Int32).toInt = 1 := by decide +kernel
      rw [e, Int32.lt_iff_toInt_lt, ti_sub _ _ (by rw [ti_nn _ (by omega), e1]; omega) (by rw [ti_nn _ (by omega), e1]; omega), ti_nn _ (by omega), e1]
      omega
    simp only [h1, h2, h3, if_true, if_false]; decide
theorem ix_yes {n : Int32} {N : Nat} (e : n = nn N) (h6 : N ≤ 1000) {k : Nat} (h : k < N) : (if nn k < 0 then 0 else if n ≤ nn k then 0 else 1 : Int32) = 1 ∧ (if (if nn k < 0 then 0 else if n - 1 < nn k then 0 else 1 : Int32) = 0 then 1 else 0 : Int32) = 0 := by
  have h2 : ¬ n ≤ nn k := by rw [e]; exact nn_ge k _ h (by omega)
  have h3 : ¬ n - 1 < nn k := by
    have e1 : (1 : Int32).toInt = 1 := by decide +kernel
    rw [e, Int32.lt_iff_toInt_lt, ti_sub _ _ (by rw [ti_nn _ (by omega), e1]; omega) (by rw [ti_nn _ (by omega), e1]; omega), ti_nn _ (by omega), ti_nn _ (by omega), e1]
    omega
  simp only [nn_neg k (by omega), h2, h3, if_false]; decide
theorem ix_cases {n : Int32} {N : Nat} (e : n = nn N) (h6 : N ≤ 1000) (p : Int32) : (p < 0 ∨ n ≤ p) ∨ ∃ k, k < N ∧ p = nn k := by
  by_cases h1 : p < 0
  · exact Or.inl (Or.inl h1)
  by_cases h2 : n ≤ p
  · exact Or.inl (Or.inr h2)
  · rw [e] at h2
    exact Or.inr (nn_of_lt (Int32.not_lt.mp h1) (Int32.not_le.mp h2) (by omega))
theorem ix_not {n : Int32} {N : Nat} (e : n = nn N) (h6 : N ≤ 1000) {k : Nat} (h : k < N) : ¬ (nn k < 0 ∨ n ≤ nn k) := by
  rintro (h1 | h1)
  · exact nn_neg k (by omega) h1
  · rw [e] at h1; exact nn_ge k _ h (by omega) h1
def rejR (R : Nat → Int32) (k : Nat) : Nat → Int32 := zeU1 R (60 + 5 * k + 4) (1 - R (60 + 5 * k + 4))
def dfN (R R' : Nat → Int32) (p : Nat) : Bool := !decide (sc R' p = sc R p)
def aRej (R : Nat → Int32) (e : Int32) : zA := if e < 0 ∨ R 5 ≤ e then (-10000001, R, 0) else if R (60 + 5 * e.toNatClampNeg + 1) = 4 then (-10000002, R, 0) else (nn (cntN (dfN R (rejR R e.toNatClampNeg)) 6), rejR R e.toNatClampNeg, 0)
theorem EG_01 {R : Nat → Int32} {k : Nat} (h : EG R k) (h4 : ¬ R (60 + 5 * k + 1) = 4) : R (60 + 5 * k + 4) = 0 ∨ R (60 + 5 * k + 4) = 1 := by
  obtain ⟨_, ⟨c, _, _, _, _, _, h⟩ | ⟨_, _, h⟩ | ⟨_, h, _⟩, _⟩ := h
  · exact h
  · exact h
  · exact absurd h h4
theorem one_sub {r : Int32} (h : r = 0 ∨ r = 1) : (1 - r = 0 ∨ 1 - r = 1) ∧ orN r = r ∧ orN (1 - r) = 1 - r := by
  rcases h with h | h <;> subst h <;> decide
theorem GD_rej {R : Nat → Int32} (hG : GD R) {k : Nat} (hk : k < rE R) (h4 : ¬ R (60 + 5 * k + 1) = 4) : GD (rejR R k) := by
  have uo : ∀ j, j ≠ 60 + 5 * k + 4 → rejR R k j = R j := fun j hj => u1_n _ _ _ _ hj
  have u1 : rejR R k (60 + 5 * k + 4) = 1 - R (60 + 5 * k + 4) := u1_s _ _ _
  generalize rejR R k = R' at uo u1
  have hr := EG_01 (hG.2.2.1 k hk).1 h4
  obtain ⟨⟨a1, a2⟩, ⟨a3, a4⟩, a5, a6, a7, a8, a9, a10, a11, a12, a13, a14, a15, a16, a17, a18⟩ := hG
  have eN : rN R' = rN R := by unfold rN; rw [uo _ (by omega)]
  have eE : rE R' = rE R := by unfold rE; rw [uo _ (by omega)]
  refine ⟨⟨by rw [uo _ (by omega), eN]; exact a1, by omega⟩, ⟨by rw [uo _ (by omega), eE]; exact a3, by omega⟩, ?_, ?_, ?_, ?_, ?_, ?_, ?_, ?_, ?_, ?_, ?_, ?_, ?_, ?_⟩
  · intro i hi
    rw [eE] at hi
    have ep : eP R' i = eP R i := by unfold eP; rw [uo _ (by omega)]
    rw [ep, eN]
    refine ⟨?_, (a5 i hi).2⟩
    have hg := (a5 i hi).1
    unfold EG at hg ⊢
    rw [ep, uo (60 + 5 * i) (by omega), uo (60 + 5 * i + 1) (by omega), uo (60 + 5 * i + 2) (by omega), uo (60 + 5 * i + 3) (by omega), uo 10 (by omega), uo 11 (by omega)]
    by_cases g : i = k
    · subst g
      rw [u1]
      obtain ⟨h1, h2, h3⟩ := hg
      refine ⟨h1, ?_, h3⟩
      rcases h2 with ⟨c, g1, g2, g3, g4, g5, g6⟩ | ⟨g1, g2, g3⟩ | ⟨g1, g2, g3⟩
      · exact Or.inl ⟨c, g1, g2, g3, g4, g5, (one_sub g6).1⟩
      · exact Or.inr (Or.inl ⟨g1, g2, (one_sub g3).1⟩)
      · exact absurd g2 h4
    · rw [uo (60 + 5 * i + 4) (by omega)]; exact hg
  · rw [uo _ (by omega)]; exact a6
  · rw [uo 0 (by omega), uo 2 (by omega), uo 11 (by omega), uo 10 (by omega)]; exact a7
  · rw [uo 0 (by omega), uo 2 (by omega)]; exact a8
  · rw [uo 6 (by omega), uo 7 (by omega), uo 8 (by omega), uo 3 (by omega), uo 4 (by omega)]; exact a9
  · rw [uo 0 (by omega), uo 10 (by omega), eN]; exact a10
  · rw [uo 12 (by omega)]; exact a11
  · rw [uo 11 (by omega), uo 10 (by omega)]; exact a12
  · intro i hi; rw [uo 13 (by omega), uo 14 (by omega)]; exact a13 i (by omega)
  · intro p hp; rw [uo 13 (by omega), uo _ (by omega)]; exact a14 p hp
  · intro p hp; rw [uo _ (by omega)]; exact a15 p hp
  · rw [uo 0 (by omega), uo 13 (by omega)]; intro h p hp; rw [uo _ (by omega)]; exact a16 h p hp
  · rw [uo 0 (by omega), uo 14 (by omega)]; exact a17
  · intro j hj; rw [uo _ (by omega)]; exact a18 j hj
theorem GD_aRej {R : Nat → Int32} (hG : GD R) (e : Int32) : GD (aRej R e).2.1 := by
  unfold aRej
  rcases ix_cases hG.2.1.1 (by have := hG.2.1.2; omega) e with h | ⟨k, hk, rfl⟩
  · rw [if_pos h]; exact hG
  rw [if_neg (ix_not hG.2.1.1 (by have := hG.2.1.2; omega) hk), tn_nn _ (by have := hG.2.1.2; omega)]
  by_cases h4 : R (60 + 5 * k + 1) = 4
  · rw [if_pos h4]; exact hG
  · rw [if_neg h4]; exact GD_rej hG hk h4
theorem CR_rej {R R' : Nat → Int32} {im im1 : zI} {lm : zJ} {k : Nat} (hG : GD R) (hk : k < rE R) (h4 : ¬ R (60 + 5 * k + 1) = 4) (uo : ∀ j, j ≠ 60 + 5 * k + 4 → R' j = R j) (u1 : R' (60 + 5 * k + 4) = 1 - R (60 + 5 * k + 4)) (hf : ∀ a, 17 ≤ a → a < 32 → a ≠ 31 → im1 a = im a) (h31 : im1 31 = zeU1 (im 31) k (1 - im 31 k)) (hc : CR im lm 17 R) : CR im1 lm 17 R' := by
  obtain ⟨⟨b1, b2, b3, b4⟩, b5, ⟨b6, b7⟩, b8, b9, b10, b11, b12, b13⟩ := hc
  have hr := EG_01 (hG.2.2.1 k hk).1 h4
  have eE : rE R' = rE R := by unfold rE; rw [uo _ (by omega)]
  have hE := hG.2.1.2
  have ec : ∀ p, p < 6 → cnt R' p = cnt R p := fun p hp => cnt_c hp (uo 3 (by omega)) (uo 4 (by omega)) (GD_rd hG) (fun j h1 h2 => uo j (by omega))
  refine ⟨⟨?_, ?_, ?_, ?_⟩, ?_, ⟨?_, ?_⟩, ?_, ?_, ?_, ?_, ?_, ?_⟩
  · rw [hf 17 (by omega) (by omega) (by omega), uo _ (by omega)]; exact b1
  · rw [hf 17 (by omega) (by omega) (by omega), uo _ (by omega)]; exact b2
  · rw [hf 17 (by omega) (by omega) (by omega), uo _ (by omega)]; exact b3
  · rw [hf 17 (by omega) (by omega) (by omega), uo _ (by omega)]; exact b4
  · intro j hj; rw [hf (17 + 1) (by omega) (by omega) (by omega), uo _ (by omega)]; exact b5 j hj
  · rw [hf (17 + 9) (by omega) (by omega) (by omega), uo _ (by omega)]; exact b6
  · rw [eE]
    intro i hi
    obtain ⟨l1, l2, l3, l4, l5⟩ := b7 i hi
    rw [uo (60 + 5 * i) (by omega), uo (60 + 5 * i + 1) (by omega), uo (60 + 5 * i + 2) (by omega), uo (60 + 5 * i + 3) (by omega), hf (17 + 9 + 1) (by omega) (by omega) (by omega), hf (17 + 9 + 2) (by omega) (by omega) (by omega), hf (17 + 9 + 3) (by omega) (by omega) (by omega), hf (17 + 9 + 4) (by omega) (by omega) (by omega)]
    refine ⟨l1, l2, l3, l4, ?_⟩
    show im1 31 i = _
    rw [h31]
    have l5 : im 31 i = orN (R (60 + 5 * i + 4)) := l5
    by_cases g : i = k
    · subst g
      rw [u1_s, u1, l5, (one_sub hr).2.1, (one_sub hr).2.2]
    · rw [u1_n _ _ _ _ g, uo (60 + 5 * i + 4) (by omega)]; exact l5
  · rw [uo 0 (by omega), uo 2 (by omega), hf (17 + 2) (by omega) (by omega) (by omega)]; exact b8
  · rw [uo 0 (by omega), uo 12 (by omega), hf (17 + 2) (by omega) (by omega) (by omega)]; exact b9
  · rw [uo 0 (by omega), uo 3 (by omega), uo 4 (by omega), uo 14 (by omega), hf (17 + 2) (by omega) (by omega) (by omega), hf (17 + 3) (by omega) (by omega) (by omega)]
    intro h
    obtain ⟨d1, d2, d3, d4⟩ := b10 h
    refine ⟨d1, d2, d3, fun p hp => ?_⟩
    rw [ec p hp]
    refine ⟨(d4 p hp).1, fun t ht => ?_⟩
    rw [told_c hp (fun j h1 h2 => uo j (by omega)) t ht]
    exact (d4 p hp).2 t ht
  · intro p hp
    rw [hf (17 + 8) (by omega) (by omega) (by omega), hf (17 + 7) (by omega) (by omega) (by omega), uo _ (by omega), uo 13 (by omega), uo _ (by omega)]; exact b11 p hp
  · rw [uo 0 (by omega), hf (17 + 6) (by omega) (by omega) (by omega)]
    intro h
    obtain ⟨a, ha, hf⟩ := b12 h
    exact ⟨a, ha, F5_c (uo 13 (by omega)) (uo 14 (by omega)) (fun j h1 h2 => uo j (by omega)) hf⟩
  · rw [uo 0 (by omega), hf (17 + 6) (by omega) (by omega) (by omega)]; exact b13
theorem s120 {R R' : Nat → Int32} {im : zI} {lm : zJ} (h1 : ∀ p, p < 6 → im 33 p = sc R' p) (h2 : ∀ p, p < 6 → im 41 p = sc R p) : ∀ d k n, k + d = 6 → d < n → F_120_4 n (nn (cntN (dfN R R') k)) (nn k) im lm = some (nn (cntN (dfN R R') 6), im, lm) := by
  intro d
  induction d with
  | zero =>
    intro k n hk hn
    obtain ⟨m, rfl⟩ : ∃ m, n = m + 1 := ⟨n - 1, by omega⟩
    have : k = 6 := by omega
    subst this
    unfold F_120_4
    rw [if_pos (show (6 : Int32) ≤ nn 6 from Int32.le_refl _)]
  | succ d ih =>
    intro k n hk hn
    obtain ⟨m, rfl⟩ : ∃ m, n = m + 1 := ⟨n - 1, by omega⟩
    have h0 : ¬ ((6 : Int32) ≤ nn k) := nn_ge k 6 (by omega) (by omega)
    unfold F_120_4
    rw [if_neg h0]
    simp (disch := omega) only [nn_mull, nn_mulr, nn_addl, nn_addr, nn_add, nn_mul, tn_nn, tn_l, inb_nn, inb_l, zCk_t, ite_self, zBd_s]
    rw [h1 k (by omega), h2 k (by omega), ← ih (k + 1) m (by omega) (by omega)]
    congr 1
    show _ = nn (cntN (dfN R R') k + (if dfN R R' k = true then 1 else 0))
    unfold dfN
    by_cases g : sc R' k = sc R k
    · rw [if_pos g, if_neg (by simp [g])]; rfl
    · rw [if_neg g, if_pos (by simp [g])]
theorem DoA_rej {R : Nat → Int32} (hG : GD R) (e : Int32) : DoA (m_121 e) R (aRej R e) := by
  have hE := hG.2.1.2
  have h26 : ∀ im lm q, NW im lm R q → im 26 0 = R 5 := fun im lm q hn => hn.1.2.2.1.1
  rcases ix_cases hG.2.1.1 (by omega) e with h | ⟨k, hk, rfl⟩
  · refine DoA_mk (by unfold aRej; rw [if_pos h]) (ret_D' _ fun im lm q hn => ?_)
    unfold m_121; rw [h26 im lm q hn, (ix_no hG.2.1.1 (by omega) h).1, if_pos rfl]
  have hnp := ix_not hG.2.1.1 (by omega) hk
  have py := (ix_yes hG.2.1.1 (by omega) hk).1
  have htn : Int32.toNatClampNeg (nn k) = k := tn_nn k (by omega)
  by_cases h4 : R (60 + 5 * k + 1) = 4
  · refine DoA_mk (by unfold aRej; rw [if_neg hnp, htn, if_pos h4]) (ret_D' _ fun im lm q hn => ?_)
    have h28 : im 28 k = R (60 + 5 * k + 1) := (hn.1.2.2.1.2 k hk).2.1
    unfold m_121
    rw [h26 im lm q hn, py, if_neg (by decide)]
    simp (disch := omega) only [nn_mull, nn_mulr, nn_addl, nn_addr, nn_add, nn_mul, tn_nn, tn_l, inb_nn, inb_l, zCk_t, ite_self, zBd_s]
    rw [h28, if_pos h4]
  · refine DoA_mk (by unfold aRej; rw [if_neg hnp, htn, if_neg h4]) ?_
    intro q im lm hn
    have hG' := GD_rej hG hk h4
    have h28 : im 28 k = R (60 + 5 * k + 1) := (hn.1.2.2.1.2 k hk).2.1
    have hf : ∀ a, ¬ a = 31 → ¬ a = 41 → zeU2 (zeCpy im 33 0 41 0 6) 31 k (1 - im 31 k) a = im a := fun a h1 h2 => by rw [u2n _ _ _ _ _ h1, cpy_n _ _ _ _ _ _ _ h2]
    have hc1 : CR (zeU2 (zeCpy im 33 0 41 0 6) 31 k (1 - im 31 k)) lm 17 (rejR R k) := by
      refine CR_rej hG hk h4 (fun j hj => u1_n _ _ _ _ hj) (u1_s _ _ _) (fun a h1 h2 h3 => hf a h3 (by omega)) ?_ hn.1
      rw [u2r, cpy_n _ _ _ _ _ _ _ (by decide)]
    obtain ⟨im2, k1, k2, k3⟩ := rep_NW (q := q) hG' hc1 (by rw [hf 16 (by decide) (by decide)]; exact hn.2.2.1) (by rw [hf 1 (by decide) (by decide)]; exact hn.2.2.2)
    have h33 : ∀ p, p < 6 → im2 33 p = sc (rejR R k) p := fun p hp => (k2.2.1.2.1 p hp).1
    have h41 : ∀ p, p < 6 → im2 41 p = sc R p := fun p hp => by
      rw [k3 41 p (by omega), u2n _ _ _ _ _ (by decide), cpy_s _ _ _ _ _ hp]; exact (hn.2.1.2.1 p hp).1
    have h120 := s120 (lm := lm) h33 h41 6 0 2000 rfl (by omega)
    refine ⟨im2, lm, ?_, k2, ⟨fun a j h1 h2 => by rw [k3 a j (by omega), hf a (by omega) (by omega)], fun _ _ _ => rfl⟩⟩
    unfold m_121 m_119 m_120
    rw [h26 im lm q hn, py, if_neg (by decide)]
    simp (disch := omega) only [nn_mull, nn_mulr, nn_addl, nn_addr, nn_add, nn_mul, tn_nn, tn_l, inb_nn, inb_l, zCk_t, ite_self, zBd_s]
    rw [h28, if_neg h4, cpy_n _ _ _ _ _ _ _ (by decide), k1, zBd_s, show F_120_4 2000 0 0 im2 lm = _ from h120, zBd_s]