/-! THE DIGEST in the law: a function of the row *-/
noncomputable def dgA (R : Nat → Int32) (k : Nat) (h : Int64) : Int64 := 31 * h + Int32.toInt64 (if k = 11 ∨ k = 12 ∨ k = 13 then 0 else qC R 0 (nn k))
def dgB (R : Nat → Int32) (p w : Nat) (h : Int64) : Int64 := 31 * h + Int32.toInt64 (qPl R (nn p) (nn w))
def dgP (R : Nat → Int32) (p : Nat) (h : Int64) : Int64 := zIt (dgB R p) 8 0 h
def dgC (R : Nat → Int32) (e w : Nat) (h : Int64) : Int64 := 31 * h + Int32.toInt64 (qEn R (nn e) (nn w))
def dgE (R : Nat → Int32) (e : Nat) (h : Int64) : Int64 := zIt (dgC R e) 8 0 h
def dgK (R : Nat → Int32) (k : Nat) (h : Int64) : Int64 := 31 * h + Int32.toInt64 (2 * qCl R (nn k) 1) + Int32.toInt64 (qCl R (nn k) 2)
noncomputable def DG (R : Nat → Int32) : Int64 := zIt (dgK R) 25 0 (zIt (dgE R) (rE R) 0 (zIt (dgP R) (rN R) 0 (zIt (dgA R) 15 0 41)))
theorem qC_q (R : Nat → Int32) (q w : Int32) (h : ¬ w = 11) : qC R q w = qC R 0 w := by
  unfold qC qCo
  simp only [h, if_false]
theorem f192_151 {im : zI} {lm : zJ} {R : Nat → Int32} {q : Int32} (h : QF im lm R q) : ∀ d k n a, k + d = 25 → d < n → F_192_151 n a (nn k) im lm = some (zIt (dgK R) d k a, im, lm) := by
  intro d
  induction d with
  | zero =>
    intro k n a hk hn
    obtain ⟨m, rfl⟩ : ∃ m, n = m + 1 := ⟨n - 1, by omega⟩
    have : k = 25 := by omega
    subst this
    unfold F_192_151
    rw [if_pos (show (25 : Int32) ≤ nn 25 from Int32.le_refl _)]
    rfl
  | succ d ih =>
    intro k n a hk hn
    obtain ⟨m, rfl⟩ : ∃ m, n = m + 1 := ⟨n - 1, by omega⟩
    unfold F_192_151
    rw [if_neg (show ¬ (25 : Int32) ≤ nn k from nn_ge k 25 (by omega) (by omega)), h.2.2.2.1, zBdj_s, h.2.2.2.1, zBdj_s, show nn k + 1 = nn (k + 1) from nn_addr k 1]
    exact ih (k + 1) m _ (by omega) (by omega)
theorem f192_115 {im : zI} {lm : zJ} {R : Nat → Int32} {q : Int32} (h : QF im lm R q) (K : Int64 → Int32 → zI → zJ → zRj) (e : Nat) : ∀ d k n a, k + d = 8 → d < n → F_192_115 K n a (nn e) (nn k) im lm = K (zIt (dgC R e) d k a) (nn (e + 1)) im lm := by
  intro d
  induction d with
  | zero =>
    intro k n a hk hn
    obtain ⟨m, rfl⟩ : ∃ m, n = m + 1 := ⟨n - 1, by omega⟩
    have : k = 8 := by omega
    subst this
    unfold F_192_115
    rw [if_pos (show (8 : Int32) ≤ nn 8 from Int32.le_refl _), show nn e + 1 = nn (e + 1) from nn_addr e 1]
    rfl
  | succ d ih =>
    intro k n a hk hn
    obtain ⟨m, rfl⟩ : ∃ m, n = m + 1 := ⟨n - 1, by omega⟩
    unfold F_192_115
    rw [if_neg (show ¬ (8 : Int32) ≤ nn k from nn_ge k 8 (by omega) (by omega)), h.2.2.2.2.1, zBdj_s, show nn k + 1 = nn (k + 1) from nn_addr k 1]
    exact ih (k + 1) m _ (by omega) (by omega)
theorem f192_103 {im : zI} {lm : zJ} {R : Nat → Int32} {q : Int32} (hG : GD R) (h : QF im lm R q) : ∀ d k n a, k + d = rE R → d < n → F_192_103 n a (nn k) im lm = F_192_151 2000 (zIt (dgE R) d k a) 0 im lm := by
  have h60 := hG.2.1.2
  intro d
  induction d with
  | zero =>
    intro k n a hk hn
    obtain ⟨m, rfl⟩ : ∃ m, n = m + 1 := ⟨n - 1, by omega⟩
    have : k = rE R := by omega
    subst this
    unfold F_192_103
    rw [(QF_c h).2.2.2.2.2.1, zBdj_s, hG.2.1.1, if_pos (Int32.le_refl _)]
    rfl
  | succ d ih =>
    intro k n a hk hn
    obtain ⟨m, rfl⟩ : ∃ m, n = m + 1 := ⟨n - 1, by omega⟩
    unfold F_192_103
    rw [(QF_c h).2.2.2.2.2.1, zBdj_s, hG.2.1.1, if_neg (show ¬ nn (rE R) ≤ nn k by rw [nn_le _ _ (by omega) (by omega)]; omega)]
    refine (f192_115 h (F_192_103 m) k 8 0 2000 a rfl (by omega)).trans ?_
    exact ih (k + 1) m _ (by omega) (by omega)
theorem f192_67 {im : zI} {lm : zJ} {R : Nat → Int32} {q : Int32} (h : QF im lm R q) (K : Int64 → Int32 → zI → zJ → zRj) (e : Nat) : ∀ d k n a, k + d = 8 → d < n → F_192_67 K n a (nn e) (nn k) im lm = K (zIt (dgB R e) d k a) (nn (e + 1)) im lm := by
  intro d
  induction d with
  | zero =>
    intro k n a hk hn
    obtain ⟨m, rfl⟩ : ∃ m, n = m + 1 := ⟨n - 1, by omega⟩
    have : k = 8 := by omega
    subst this
    unfold F_192_67
    rw [if_pos (show (8 : Int32) ≤ nn 8 from Int32.le_refl _), show nn e + 1 = nn (e + 1) from nn_addr e 1]
    rfl
  | succ d ih =>
    intro k n a hk hn
    obtain ⟨m, rfl⟩ : ∃ m, n = m + 1 := ⟨n - 1, by omega⟩
    unfold F_192_67
    rw [if_neg (show ¬ (8 : Int32) ≤ nn k from nn_ge k 8 (by omega) (by omega)), h.1, zBdj_s, show nn k + 1 = nn (k + 1) from nn_addr k 1]
    exact ih (k + 1) m _ (by omega) (by omega)
theorem f192_55 {im : zI} {lm : zJ} {R : Nat → Int32} {q : Int32} (hG : GD R) (h : QF im lm R q) : ∀ d k n a, k + d = rN R → d < n → F_192_55 n a (nn k) im lm = F_192_103 2000 (zIt (dgP R) d k a) 0 im lm := by
  have h6 := hG.1.2
  intro d
  induction d with
  | zero =>
    intro k n a hk hn
    obtain ⟨m, rfl⟩ : ∃ m, n = m + 1 := ⟨n - 1, by omega⟩
    have : k = rN R := by omega
    subst this
    unfold F_192_55
    rw [(QF_c h).2.1, zBdj_s, hG.1.1, if_pos (Int32.le_refl _)]
    rfl
  | succ d ih =>
    intro k n a hk hn
    obtain ⟨m, rfl⟩ : ∃ m, n = m + 1 := ⟨n - 1, by omega⟩
    unfold F_192_55
    rw [(QF_c h).2.1, zBdj_s, hG.1.1, if_neg (show ¬ nn (rN R) ≤ nn k by rw [nn_le _ _ (by omega) (by omega)]; omega)]
    refine (f192_67 h (F_192_55 m) k 8 0 2000 a rfl (by omega)).trans ?_
    exact ih (k + 1) m _ (by omega) (by omega)
theorem f192_6 {im : zI} {lm : zJ} {R : Nat → Int32} {q : Int32} (h : QF im lm R q) : ∀ d k n a, k + d = 15 → d < n → F_192_6 n a (nn k) im lm = F_192_55 2000 (zIt (dgA R) d k a) 0 im lm := by
  intro d
  induction d with
  | zero =>
    intro k n a hk hn
    obtain ⟨m, rfl⟩ : ∃ m, n = m + 1 := ⟨n - 1, by omega⟩
    have : k = 15 := by omega
    subst this
    unfold F_192_6
    rw [if_pos (show (15 : Int32) ≤ nn 15 from Int32.le_refl _)]
    rfl
  | succ d ih =>
    intro k n a hk hn
    obtain ⟨m, rfl⟩ : ∃ m, n = m + 1 := ⟨n - 1, by omega⟩
    have e1 : (nn k = 11) = (k = 11) := by rw [show (11 : Int32) = nn 11 from rfl]; exact nn_inj _ _ (by omega) (by omega)
    have e2 : (nn k = 12) = (k = 12) := by rw [show (12 : Int32) = nn 12 from rfl]; exact nn_inj _ _ (by omega) (by omega)
    have e3 : (nn k = 13) = (k = 13) := by rw [show (13 : Int32) = nn 13 from rfl]; exact nn_inj _ _ (by omega) (by omega)
    have hs : zIt (dgA R) (d + 1) k a = zIt (dgA R) d (k + 1) (dgA R k a) := rfl
    rw [hs]
    unfold F_192_6
    rw [if_neg (show ¬ (15 : Int32) ≤ nn k from nn_ge k 15 (by omega) (by omega))]
    by_cases g1 : k = 11
    · have : dgA R k a = 31 * a + Int32.toInt64 0 := by unfold dgA; rw [if_pos (Or.inl g1)]
      rw [if_pos (e1 ▸ g1), this]
      unfold J_192_35
      rw [show nn k + 1 = nn (k + 1) from nn_addr k 1]
      exact ih (k + 1) m _ (by omega) (by omega)
    · rw [if_neg (e1 ▸ g1)]
      by_cases g2 : k = 12
      · have : dgA R k a = 31 * a + Int32.toInt64 0 := by unfold dgA; rw [if_pos (Or.inr (Or.inl g2))]
        rw [if_pos (e2 ▸ g2), this]
        unfold J_192_35
        rw [show nn k + 1 = nn (k + 1) from nn_addr k 1]
        exact ih (k + 1) m _ (by omega) (by omega)
      · rw [if_neg (e2 ▸ g2)]
        by_cases g3 : k = 13
        · have : dgA R k a = 31 * a + Int32.toInt64 0 := by unfold dgA; rw [if_pos (Or.inr (Or.inr g3))]
          rw [if_pos (e3 ▸ g3), this]
          unfold J_192_35
          rw [show nn k + 1 = nn (k + 1) from nn_addr k 1]
          exact ih (k + 1) m _ (by omega) (by omega)
        · have : dgA R k a = 31 * a + Int32.toInt64 (qC R 0 (nn k)) := by unfold dgA; rw [if_neg (by omega)]
          rw [if_neg (e3 ▸ g3), this, h.2.2.2.2.2.2 (nn k) (e2 ▸ g2) (e3 ▸ g3), zBdj_s, qC_q R q _ (e1 ▸ g1), show nn k + 1 = nn (k + 1) from nn_addr k 1]
          exact ih (k + 1) m _ (by omega) (by omega)
theorem m_192_v {im : zI} {lm : zJ} {R : Nat → Int32} {q : Int32} (hG : GD R) (h : QF im lm R q) : m_192 im lm = some (DG R, im, lm) := by
  have h6 := hG.1.2
  have h60 := hG.2.1.2
  unfold m_192 DG
  refine (f192_6 h 15 0 2000 41 rfl (by omega)).trans ?_
  refine (f192_55 hG h (rN R) 0 2000 _ (by omega) (by omega)).trans ?_
  refine (f192_103 hG h (rE R) 0 2000 _ (by omega) (by omega)).trans ?_
  exact f192_151 h 25 0 2000 _ rfl (by omega)
