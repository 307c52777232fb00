/-! QUERIES: count *-/
def ldS (R : Nat → Int32) (p : Nat) (x : Int32) : Int32 := if cntN (abB R (sc R p)) (rN R) = 0 then x ||| (1 <<< (nn p &&& 31)) else x
def smN (R : Nat → Int32) : Nat → Int32
  | 0 => 0
  | k + 1 => smN R k + sc R k
theorem b_or0 (x : Int32) : x ||| 0 = x := b_ext (fun i _ => by rw [b_or, b_0, Bool.or_false])
theorem s175 {R : Nat → Int32} {q : Int32} (hG : GD R) {im : zI} {lm : zJ} (hn : NW im lm R q) : ∀ d k n x, k + d = rN R → d < n → F_175_4 n x (nn k) im lm = some (zIt (ldS R) d k x, im, lm) := by
  have h6 := hG.1.2
  have b2 : im 17 1 = nn (rN R) := hn.1.1.2.1.trans hG.1.1
  intro d
  induction d with
  | zero =>
    intro k n x hk hn'
    obtain ⟨m, rfl⟩ : ∃ m, n = m + 1 := ⟨n - 1, by omega⟩
    have : k = rN R := by omega
    subst this
    unfold F_175_4
    rw [b2, if_pos (Int32.le_refl _)]; rfl
  | succ d ih =>
    intro k n x hk hn'
    obtain ⟨m, rfl⟩ : ∃ m, n = m + 1 := ⟨n - 1, by omega⟩
    have h0 : ¬ (nn (rN R) ≤ nn k) := nn_ge k _ (by omega) (by omega)
    have hz : (nn (cntN (abB R (sc R k)) (rN R)) = 0) = (cntN (abB R (sc R k)) (rN R) = 0) := by
      rw [show (0 : Int32) = nn 0 from rfl]; exact nn_inj _ _ (by have := cntN_le (abB R (sc R k)) (rN R); omega) (by omega)
    unfold F_175_4
    rw [b2, if_neg h0]
    simp (disch := omega) only [nn_mull, nn_mulr, nn_addl, nn_addr, nn_add, nn_mul, tn_nn, tn_l, inb_nn, inb_l, zCk_t, ite_self, zBd_s]
    rw [(nw_sc hn k (by omega)).1, s153w hG hn, zBd_s]
    simp only [hz]
    exact ih (k + 1) m _ (by omega) (by omega)
theorem s176 {R : Nat → Int32} {q : Int32} (hG : GD R) {im : zI} {lm : zJ} (hn : NW im lm R q) : ∀ d k n, k + d = rN R → d < n → F_176_4 n (smN R k) (nn k) im lm = some (smN R (rN R), im, lm) := by
  have h6 := hG.1.2
  have b2 : im 17 1 = nn (rN R) := hn.1.1.2.1.trans hG.1.1
  intro d
  induction d with
  | zero =>
    intro k n hk hn'
    obtain ⟨m, rfl⟩ : ∃ m, n = m + 1 := ⟨n - 1, by omega⟩
    have : k = rN R := by omega
    subst this
    unfold F_176_4
    rw [b2, if_pos (Int32.le_refl _)]
  | succ d ih =>
    intro k n hk hn'
    obtain ⟨m, rfl⟩ : ∃ m, n = m + 1 := ⟨n - 1, by omega⟩
    have h0 : ¬ (nn (rN R) ≤ nn k) := nn_ge k _ (by omega) (by omega)
    unfold F_176_4
    rw [b2, if_neg h0]
    simp (disch := omega) only [nn_mull, nn_mulr, nn_addl, nn_addr, nn_add, nn_mul, tn_nn, tn_l, inb_nn, inb_l, zCk_t, ite_self, zBd_s]
    rw [(nw_sc hn k (by omega)).1]
    exact ih (k + 1) m (by omega) (by omega)
theorem smN_6 {R : Nat → Int32} (hG : GD R) : ∀ d, smN R (rN R + d) = smN R (rN R) := by
  intro d
  induction d with
  | zero => rfl
  | succ d ih =>
    show smN R (rN R + d) + sc R (rN R + d) = _
    rw [ih, GD_sc0 hG (by omega)]
    exact Int32.add_zero _
def qCo (R : Nat → Int32) (q : Int32) (K L a : Nat) (w : Int32) : Int32 := if w = 0 then R 0 else if w = 1 then R 1 else if w = 2 then 25 - nn (pop (R 10)) else if w = 3 then orN (R 2) else if w = 4 then (if rN R = 0 then -10000005 else nn (ctl R)) else if w = 5 then R 5 else if w = 6 then zIt (ldS R) (rN R) 0 0 else if w = 7 then smN R (rN R) else if w = 8 then R 6 else if w = 9 then R 7 else if w = 10 then R 8 else if w = 11 then q else if w = 12 then nn K else if w = 13 then nn L else if w = 14 then (if R 0 = 5 then nxt R a (-10000005) else -10000005) else -10000002
theorem Q_co {R : Nat → Int32} (hG : GD R) {a : Nat} (hF : R 0 = 5 → F5 R a) (w : Int32) {im : zI} {lm : zJ} {q : Int32} {K L : Nat} (hn : NW im lm R q) (hK : im 42 0 = nn K) (hL : im 166 0 = nn L) : m_177 w im lm = some (qCo R q K L a w, im, lm) := by
  have h6 := hG.1.2
  obtain ⟨⟨b1, b2, b3, b4⟩, b5, ⟨b6, _⟩, b8, _⟩ := hn.1
  have b6 : im 26 0 = R 5 := b6
  have s0 : im 18 0 = R 6 := b5 0 (by decide)
  have s1 : im 18 1 = R 7 := b5 1 (by decide)
  have s2 : im 18 2 = R 8 := b5 2 (by decide)
  unfold qCo m_177
  by_cases w0 : w = 0
  · rw [if_pos w0, if_pos w0, b1]
  rw [if_neg w0, if_neg w0]
  by_cases w1 : w = 1
  · rw [if_pos w1, if_pos w1, b2]
  rw [if_neg w1, if_neg w1]
  by_cases w2 : w = 2
  · rw [if_pos w2, if_pos w2, b4, s29 _ (fun i hi => (hG.2.2.2.2.2.2.2.2.2.1 i hi).1), zBd_s]
  rw [if_neg w2, if_neg w2]
  by_cases w3 : w = 3
  · rw [if_pos w3, if_pos w3, b1]
    by_cases g : R 0 = 1 ∨ R 0 = 2 ∨ R 0 = 3
    · have b8 : im 19 0 = R 2 := b8 g
      obtain ⟨c, hc, h2, _⟩ := hG.2.2.2.2.1 g
      rw [b8, h2, orN_n _ (by omega)]
      rcases g with g | g | g <;> rw [g] <;> rfl
    · have h2 := hG.2.2.2.2.2.1 g
      have g1 : ¬ R 0 = 1 := fun h => g (Or.inl h)
      have g2 : ¬ R 0 = 2 := fun h => g (Or.inr (Or.inl h))
      have g3 : ¬ R 0 = 3 := fun h => g (Or.inr (Or.inr h))
      rw [h2, orN_m]
      simp only [g1, g2, g3, if_false, if_true]
  rw [if_neg w3, if_neg w3]
  by_cases w4 : w = 4
  · rw [if_pos w4, if_pos w4, b2, hG.1.1]
    have hz : (nn (rN R) = 0) = (rN R = 0) := by rw [show (0 : Int32) = nn 0 from rfl]; exact nn_inj _ _ (by omega) (by omega)
    simp only [hz]
    by_cases g : rN R = 0
    · rw [if_pos g, if_pos g]
    · rw [if_neg g, if_neg g, hn.2.1.1, (ctl_e hG (by omega)).1]
  rw [if_neg w4, if_neg w4]
  by_cases w5 : w = 5
  · rw [if_pos w5, if_pos w5, b6]
  rw [if_neg w5, if_neg w5]
  by_cases w6 : w = 6
  · rw [if_pos w6, if_pos w6]
    unfold m_175
    rw [show F_175_4 2000 0 0 im lm = _ from s175 hG hn (rN R) 0 2000 0 (by omega) (by omega), zBd_s]
  rw [if_neg w6, if_neg w6]
  by_cases w7 : w = 7
  · rw [if_pos w7, if_pos w7]
    unfold m_176
    rw [show F_176_4 2000 0 0 im lm = _ from s176 hG hn (rN R) 0 2000 (by omega) (by omega), zBd_s]
  rw [if_neg w7, if_neg w7]
  by_cases w8 : w = 8
  · subst w8
    rw [if_pos rfl]
    simp only [show ((8 : Int32) - 8) = 0 from by decide, show Int32.toNatClampNeg 0 = 0 from rfl, s0, if_true, show zeInb 0 3 = true from by decide, zCk_t]
  by_cases w9 : w = 9
  · subst w9
    simp only [eq_self, show ((9 : Int32) - 8) = 1 from by decide, show Int32.toNatClampNeg 1 = 1 from by decide, s1, if_true, if_false, show zeInb 1 3 = true from by decide, zCk_t, show ((9 : Int32) = 8) = False from by decide]
  by_cases w10 : w = 10
  · subst w10
    simp only [eq_self, show ((10 : Int32) - 8) = 2 from by decide, show Int32.toNatClampNeg 2 = 2 from by decide, s2, if_true, if_false, show zeInb 2 3 = true from by decide, zCk_t, show ((10 : Int32) = 8) = False from by decide, show ((10 : Int32) = 9) = False from by decide]
  rw [if_neg w8, if_neg w8, if_neg w9, if_neg w9, if_neg w10, if_neg w10]
  by_cases w11 : w = 11
  · rw [if_pos w11, if_pos w11, hn.2.2.1]
  rw [if_neg w11, if_neg w11]
  by_cases w12 : w = 12
  · rw [if_pos w12, if_pos w12, hK]
  rw [if_neg w12, if_neg w12]
  by_cases w13 : w = 13
  · rw [if_pos w13, if_pos w13, hL]
  rw [if_neg w13, if_neg w13]
  by_cases w14 : w = 14
  · rw [if_pos w14, if_pos w14, b1]
    by_cases g : R 0 = 5
    · obtain ⟨a', g1, g2⟩ := hn.1.2.2.2.2.2.2.2.1 g
      rw [F5_u g2 (hF g)] at g1
      have := (hF g).1
      have := cntN_le (ptB R) 6
      rw [if_pos g, if_pos g]
      unfold m_82
      rw [show F_82_2 2000 0 im lm = _ from s82 (st24_of hG hn) a (by omega) g1 6 0 2000 rfl (by omega) (fun p hp => absurd hp (Nat.not_lt_zero p)), zBd_s]
    · rw [if_neg g, if_neg g]
  rw [if_neg w14, if_neg w14]