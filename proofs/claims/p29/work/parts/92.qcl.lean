/-! QUERIES: clue, entry *-/
def ansE (R : Nat → Int32) (c k : Nat) : Bool := decide (R (60 + 5 * k + 2) = nn c)
def qCl (R : Nat → Int32) (x w : Int32) : Int32 := if x < 0 ∨ 25 ≤ x then -10000001 else if w = 0 then nn (valC x.toNatClampNeg) else if w = 1 then zb (bt (R 11) x.toNatClampNeg = true) else if w = 2 then zb (bt (R 10) x.toNatClampNeg = true) else if w = 3 then nn (cntN (ansE R x.toNatClampNeg) (rE R)) else if w = 4 then zsl R (rE R) x.toNatClampNeg else -10000002
theorem orN_nn {v : Int32} {c : Nat} (hc : c < 2147483648) : (orN v = nn c) = (v = nn c) := by
  unfold orN
  apply propext
  by_cases g : v < 0
  · rw [if_pos g]
    exact ⟨fun h => absurd h.symm (nn_nn c hc), fun h => absurd (h ▸ g) (nn_neg c hc)⟩
  · rw [if_neg g]
theorem s168 {R : Nat → Int32} {q : Int32} (hG : GD R) {im : zI} {lm : zJ} (hn : NW im lm R q) (c : Nat) (hc : c < 25) : ∀ d k n, k + d = rE R → d < n → F_168_4 n (nn c) (nn (cntN (ansE R c) k)) (nn k) im lm = some (nn (cntN (ansE R c) (rE R)), im, lm) := by
  have h60 := hG.2.1.2
  have b2 : im 26 0 = nn (rE R) := hn.1.2.2.1.1.trans hG.2.1.1
  intro d
  induction d with
  | zero =>
    intro k n hk hn'
    obtain ⟨m, rfl⟩ : ∃ m, n = m + 1 := ⟨n - 1, by omega⟩
    have : k = rE R := by omega
    subst this
    unfold F_168_4
    rw [b2, if_pos (Int32.le_refl _)]
  | succ d ih =>
    intro k n hk hn'
    obtain ⟨m, rfl⟩ : ∃ m, n = m + 1 := ⟨n - 1, by omega⟩
    have h0 : ¬ (nn (rE R) ≤ nn k) := nn_ge k _ (by omega) (by omega)
    have l3 : im 29 k = orN (R (60 + 5 * k + 2)) := (hn.1.2.2.1.2 k (by omega)).2.2.1
    have ho : (orN (R (60 + 5 * k + 2)) = nn c) = (R (60 + 5 * k + 2) = nn c) := orN_nn (by omega)
    unfold F_168_4
    rw [b2, if_neg h0]
    simp (disch := omega) only [nn_mull, nn_mulr, nn_addl, nn_addr, nn_add, nn_mul, tn_nn, tn_l, inb_nn, inb_l, zCk_t, ite_self, zBd_s, l3, ho]
    rw [← ih (k + 1) m (by omega) (by omega)]
    congr 1
    show _ = nn (cntN (ansE R c) k + (if ansE R c k = true then 1 else 0))
    unfold ansE
    by_cases g : R (60 + 5 * k + 2) = nn c
    · rw [if_pos g, if_pos (decide_eq_true g)]
    · rw [if_neg g, if_neg (by simp [g])]; rfl
theorem Q_cl {R : Nat → Int32} (hG : GD R) (x w : Int32) : QC (m_169 x w) R (qCl R x w) := by
  intro im lm q hn
  obtain ⟨b1, b2, b3, b4⟩ := hn.1.1
  unfold qCl m_169
  rw [b3, b4]
  rcases ix_cases (n := 25) (N := 25) rfl (by omega) x with h | ⟨k, hk, rfl⟩
  · rw [if_pos h, (ix_no (n := 25) (N := 25) rfl (by omega) h).1, if_pos rfl]
  have hnc : ¬ (nn k < 0 ∨ 25 ≤ nn k) := ix_not (n := 25) (N := 25) rfl (by omega) hk
  have e25 : (if nn k < 0 then 0 else if (25 : Int32) ≤ nn k then 0 else 1 : Int32) = 1 := (ix_yes (n := 25) (N := 25) rfl (by omega) hk).1
  rw [if_neg hnc, e25, if_neg (by decide), val_e k hk, b_get _ _ (by omega), b_get _ _ (by omega)]
  simp (disch := omega) only [nn_mull, nn_mulr, nn_addl, nn_addr, nn_add, nn_mul, tn_nn, tn_l, inb_nn, inb_l, zCk_t, ite_self, zBd_s]
  by_cases w0 : w = 0
  · rw [if_pos w0, if_pos w0]
  rw [if_neg w0, if_neg w0]
  by_cases w1 : w = 1
  · rw [if_pos w1, if_pos w1]
  rw [if_neg w1, if_neg w1]
  by_cases w2 : w = 2
  · rw [if_pos w2, if_pos w2]
  rw [if_neg w2, if_neg w2]
  by_cases w3 : w = 3
  · rw [if_pos w3, if_pos w3]
    have h168 := s168 hG hn k hk (rE R) 0 2000 (by omega) (by have := hG.2.1.2; omega)
    unfold m_168
    rw [show F_168_4 2000 (nn k) 0 0 im lm = _ from h168, zBd_s]
  rw [if_neg w3, if_neg w3]
  by_cases w4 : w = 4
  · rw [if_pos w4, if_pos w4, hn.2.1.2.2.1 k hk]
  rw [if_neg w4, if_neg w4]
theorem sort_lt {R : Nat → Int32} {k c : Nat} (h : EG R k) (hc : c < 25) (h2 : R (60 + 5 * k + 2) = nn c) : ¬ 3 ≤ R (60 + 5 * k + 1) ∧ ¬ 4 ≤ R (60 + 5 * k + 1) := by
  have m1 : ¬ (-1 : Int32) = nn c := fun h => by
    rw [ti_eq, ti_nn _ (by omega)] at h
    have : (-1 : Int32).toInt = -1 := by decide +kernel
    omega
  rcases h with ⟨_, ⟨c', _, _, hs, _⟩ | ⟨h1, _⟩ | ⟨h1, _⟩, _⟩
  · obtain ⟨_, h4, h3, _⟩ := lit_s hs; exact ⟨h3, h4⟩
  · exact absurd (h1.symm.trans h2) m1
  · exact absurd (h1.symm.trans h2) m1
/-! entry -/
def qEn (R : Nat → Int32) (e w : Int32) : Int32 := if e < 0 ∨ R 5 ≤ e then -10000001 else if w = 0 then R (60 + 5 * e.toNatClampNeg) else if w = 1 then R (60 + 5 * e.toNatClampNeg + 1) else if w = 2 then orN (R (60 + 5 * e.toNatClampNeg + 2)) else if w = 3 then R (60 + 5 * e.toNatClampNeg + 3) else if w = 4 then zam R e.toNatClampNeg else if w = 5 then orN (R (60 + 5 * e.toNatClampNeg + 4)) else if w = 6 then zsc R (e.toNatClampNeg + 1) (eP R e.toNatClampNeg) else if w = 7 then zb (vd R e.toNatClampNeg = true) else -10000002
theorem zb_if (p : Prop) [Decidable p] : (if zb p = 0 then (0 : Int32) else 1) = zb p := by
  by_cases h : p
  · rw [zb_t h]; decide
  · rw [zb_f h]; decide
theorem Q_en {R : Nat → Int32} (hG : GD R) (e w : Int32) : QC (m_172 e w) R (qEn R e w) := by
  intro im lm q hn
  have h60 := hG.2.1.2
  have b6 : im 26 0 = R 5 := hn.1.2.2.1.1
  unfold qEn m_172
  rw [b6]
  rcases ix_cases hG.2.1.1 (by omega) e with h | ⟨k, hk, rfl⟩
  · rw [if_pos h, (ix_no hG.2.1.1 (by omega) h).1, if_pos rfl, if_pos rfl, zCk_t]
  have py := (ix_yes hG.2.1.1 (by omega) hk).1
  obtain ⟨l1, l2, l3, l4, l5⟩ := hn.1.2.2.1.2 k hk
  obtain ⟨v1, v2, v3⟩ := hn.2.1.2.2.2 k hk
  have l1 : im 27 k = R (60 + 5 * k) := l1
  have l2 : im 28 k = R (60 + 5 * k + 1) := l2
  have l3 : im 29 k = orN (R (60 + 5 * k + 2)) := l3
  have l4 : im 30 k = R (60 + 5 * k + 3) := l4
  have l5 : im 31 k = orN (R (60 + 5 * k + 4)) := l5
  rw [if_neg (ix_not hG.2.1.1 (by omega) hk), py]
  simp (disch := omega) only [show ((1 : Int32) = 0) = False from by decide, if_false, nn_mull, nn_mulr, nn_addl, nn_addr, nn_add, nn_mul, tn_nn, tn_l, inb_nn, inb_l, zCk_t, ite_self, zBd_s, l1, l2, l3, l4, l5, v1, v2, v3, zb_if]