/-! QUERIES: player, ordered, queued, safeWager *-/
theorem orN_e (v : Int32) : (if 0 ≤ v then v else (-10000005) : Int32) = orN v := by
  unfold orN
  by_cases g : v < 0
  · rw [if_pos g, if_neg (Int32.not_le.mpr g)]
  · rw [if_neg g, if_pos (Int32.not_lt.mp g)]
def qPl (R : Nat → Int32) (p w : Int32) : Int32 := if p < 0 ∨ R 1 ≤ p then -10000001 else if w = 0 then sc R p.toNatClampNeg else if w = 1 then zrt R (rE R) p.toNatClampNeg else if w = 2 then zwr R (rE R) p.toNatClampNeg else if w = 3 then nn (1 + cntN (abB R (sc R p.toNatClampNeg)) (rN R)) else if w = 4 then nn (plc allB (bfB R) (rN R) p.toNatClampNeg) else if w = 5 then (if R 0 = 1 then orN (cnt R p.toNatClampNeg) else -10000005) else if w = 6 then orN (R (22 + p.toNatClampNeg)) else if w = 7 then zco R (rE R) p.toNatClampNeg else -10000002
theorem Q_pl {R : Nat → Int32} (hG : GD R) (p w : Int32) : QC (m_156 p w) R (qPl R p w) := by
  intro im lm q hn
  have h6 := hG.1.2
  have b1 := hn.1.1.1
  have b2 := hn.1.1.2.1
  unfold qPl m_156
  rw [b1, b2]
  rcases ix_cases hG.1.1 (by omega) p with h | ⟨k, hk, rfl⟩
  · rw [if_pos h, (ix_no hG.1.1 (by omega) h).1, if_pos rfl]
  have hk6 : k < 6 := by omega
  have hi := inb_nn k 6 hk6 (by omega)
  have ht : Int32.toNatClampNeg (nn k) = k := tn_nn k (by omega)
  obtain ⟨v1, v2, v3, v4⟩ := hn.2.1.2.1 k hk6
  have h25 : im 25 k = orN (R (22 + k)) := (hn.1.2.2.2.2.2.2.1 k hk6).1
  rw [if_neg (ix_not hG.1.1 (by omega) hk), (ix_yes hG.1.1 (by omega) hk).1, if_neg (by decide)]
  simp only [hi, ht, zCk_t, ite_self]
  by_cases w0 : w = 0
  · simp only [w0, if_true]; rw [v1]; rfl
  by_cases w1 : w = 1
  · subst w1; simp only [if_true, if_false, show ((1 : Int32) = 0) = False from by decide]; rw [v2]
  by_cases w2 : w = 2
  · subst w2; simp only [if_true, if_false, show ((2 : Int32) = 0) = False from by decide, show ((2 : Int32) = 1) = False from by decide]; rw [v3]
  rw [if_neg w0, if_neg w0, if_neg w1, if_neg w1, if_neg w2, if_neg w2]
  by_cases w3 : w = 3
  · rw [if_pos w3, if_pos w3, s153w hG hn, zBd_s, v1, nn_addl]; rfl
  rw [if_neg w3, if_neg w3]
  by_cases w4 : w = 4
  · rw [if_pos w4, if_pos w4, s155w hG hn k hk6, zBd_s]
  rw [if_neg w4, if_neg w4]
  by_cases w5 : w = 5
  · rw [if_pos w5, if_pos w5]
    by_cases g : R 0 = 1
    · rw [if_pos g, if_pos g]
      have h20 : im 20 k = orN (cnt R k) := ((hn.1.2.2.2.2.2.1 g).2.2.2 k hk6).1
      rw [h20]
    · rw [if_neg g, if_neg g]
  rw [if_neg w5, if_neg w5]
  by_cases w6 : w = 6
  · rw [if_pos w6, if_pos w6, h25]
  rw [if_neg w6, if_neg w6]
  by_cases w7 : w = 7
  · rw [if_pos w7, if_pos w7, v4]
  rw [if_neg w7, if_neg w7]
/-! ordered, queued -/
def qOr (R : Nat → Int32) (x : Int32) : Int32 := if 0 ≤ x then pat R x.toNatClampNeg (-10000005) else -10000002
theorem pat_or {R : Nat → Int32} {i : Nat} (h6 : rN R ≤ 6) : orN (pat R i (-1)) = pat R i (-10000005) := by
  rcases Nat.lt_or_ge i (rN R) with h | h
  · obtain ⟨p, h1, h2, h3⟩ := pat_some (-1) h
    obtain ⟨p', g1, g2, g3⟩ := pat_some (-10000005) h
    rw [h3] at g3; cases g3
    rw [h2, g2, orN_n _ (by omega)]
  · rw [pat_none _ h, pat_none _ h]; exact orN_m
theorem Q_or {R : Nat → Int32} (hG : GD R) (x : Int32) : QC (m_163 x) R (qOr R x) := by
  intro im lm q hn
  unfold qOr m_163
  by_cases h : 0 ≤ x
  · obtain ⟨h1, h2⟩ := nn_of x h
    rw [if_pos h, if_pos h, zBd_id]
    generalize x.toNatClampNeg = i at h1 h2
    rw [h1]
    exact s162w hG hn i h2
  · rw [if_neg h, if_neg h]
def qQu (R : Nat → Int32) (x : Int32) : Int32 := if 0 ≤ x then (if R 0 = 1 then qat R x.toNatClampNeg else -10000005) else -10000002
theorem Q_qu {R : Nat → Int32} (hG : GD R) (x : Int32) : QC (m_166 x) R (qQu R x) := by
  intro im lm q hn
  unfold qQu m_166
  by_cases h : 0 ≤ x
  · obtain ⟨h1, h2⟩ := nn_of x h
    rw [if_pos h, if_pos h, zBd_id]
    by_cases g : R 0 = 1
    · rw [if_pos g]
      generalize x.toNatClampNeg = i at h1 h2
      rw [h1]
      exact s69 hG hn g i h2 (rN R) 0 2000 (by omega) (by have := hG.1.2; omega) (fun p hp => absurd hp (Nat.not_lt_zero p))
    · rw [if_neg g]
      exact s69_0 hG hn g x (rN R) 0 2000 (by omega) (by have := hG.1.2; omega)
  · rw [if_neg h, if_neg h]
/-! safeWager -/
def dbl (x : Int32) : Int32 := if x ≤ 0 then x else 2 * x
def sfM (R : Nat → Int32) (p : Nat) : Nat → Int32
  | 0 => -1000000000
  | k + 1 => if k = p then sfM R p k else if dbl (sc R k) ≤ sfM R p k then sfM R p k else dbl (sc R k)
def sfC (R : Nat → Int32) (p : Nat) : Nat → Int32
  | 0 => 0
  | k + 1 => if k = p then sfC R p k else if sfC R p k < dbl (sc R k) + 1 - sc R p then dbl (sc R k) + 1 - sc R p else sfC R p k
theorem i_lits : (2 : Int32).toInt = 2 ∧ (1 : Int32).toInt = 1 ∧ (0 : Int32).toInt = 0 ∧ (-1000000000 : Int32).toInt = -1000000000 := by decide +kernel
theorem ti_mul (a b : Int32) (h1 : -2147483648 ≤ a.toInt * b.toInt) (h2 : a.toInt * b.toInt < 2147483648) : (a * b).toInt = a.toInt * b.toInt := by
  rw [Int32.toInt_mul]
  exact Int.bmod_eq_of_le (by omega) (by omega)
theorem dbl_b {R : Nat → Int32} (hG : GD R) (k : Nat) : -6000000 ≤ (dbl (sc R k)).toInt ∧ (dbl (sc R k)).toInt ≤ 12000000 := by
  have h := GD_sc hG k
  obtain ⟨l2, l1, l0, _⟩ := i_lits
  unfold dbl
  by_cases g : sc R k ≤ 0
  · rw [if_pos g]; omega
  · rw [if_neg g]
    rw [Int32.le_iff_toInt_le, l0] at g
    rw [ti_mul _ _ (by rw [l2]; omega) (by rw [l2]; omega), l2]
    omega
theorem sfM_b {R : Nat → Int32} (hG : GD R) (p : Nat) : ∀ k, -1000000000 ≤ (sfM R p k).toInt ∧ (sfM R p k).toInt ≤ 12000000 := by
  intro k
  induction k with
  | zero => obtain ⟨_, _, _, l⟩ := i_lits; show _ ≤ (-1000000000 : Int32).toInt ∧ (-1000000000 : Int32).toInt ≤ _; rw [l]; omega
  | succ k ih =>
    have hd := dbl_b hG k
    unfold sfM
    by_cases g : k = p
    · rw [if_pos g]; exact ih
    · rw [if_neg g]
      by_cases g2 : dbl (sc R k) ≤ sfM R p k
      · rw [if_pos g2]; exact ih
      · rw [if_neg g2]; omega
theorem sf_e {R : Nat → Int32} (hG : GD R) (p : Nat) : ∀ k, (sfC R p k).toInt = max 0 ((sfM R p k).toInt + 1 - (sc R p).toInt) := by
  have hs := GD_sc hG p
  obtain ⟨l2, l1, l0, l9⟩ := i_lits
  intro k
  induction k with
  | zero =>
    show (0 : Int32).toInt = max 0 ((-1000000000 : Int32).toInt + 1 - (sc R p).toInt)
    rw [l0, l9]; omega
  | succ k ih =>
    have hd := dbl_b hG k
    have hm := sfM_b hG p k
    have e1 : (dbl (sc R k) + 1).toInt = (dbl (sc R k)).toInt + 1 := by rw [ti_add _ _ (by rw [l1]; omega) (by rw [l1]; omega), l1]
    have e2 : (dbl (sc R k) + 1 - sc R p).toInt = (dbl (sc R k)).toInt + 1 - (sc R p).toInt := by
      rw [ti_sub _ _ (by rw [e1]; omega) (by rw [e1]; omega), e1]
    unfold sfC sfM
    by_cases g : k = p
    · rw [if_pos g, if_pos g]; exact ih
    · rw [if_neg g, if_neg g]
      by_cases g2 : dbl (sc R k) ≤ sfM R p k
      · rw [if_pos g2]
        rw [Int32.le_iff_toInt_le] at g2
        by_cases g3 : sfC R p k < dbl (sc R k) + 1 - sc R p
        · rw [if_pos g3]
          rw [Int32.lt_iff_toInt_lt, e2, ih] at g3
          omega
        · rw [if_neg g3]; exact ih
      · rw [if_neg g2]
        rw [Int32.le_iff_toInt_le] at g2
        by_cases g3 : sfC R p k < dbl (sc R k) + 1 - sc R p
        · rw [if_pos g3, e2]
          rw [Int32.lt_iff_toInt_lt, e2, ih] at g3
          omega
        · rw [if_neg g3, ih]
          rw [Int32.lt_iff_toInt_lt, e2, ih] at g3
          omega
def qSf (R : Nat → Int32) (p : Int32) : Int32 := if p < 0 ∨ R 1 ≤ p then -10000001 else if 0 < sc R p.toNatClampNeg then (if sc R p.toNatClampNeg < sfC R p.toNatClampNeg (rN R) then -10000005 else sfC R p.toNatClampNeg (rN R)) else -10000005
theorem s113 {R : Nat → Int32} {q : Int32} (hG : GD R) {im : zI} {lm : zJ} (hn : NW im lm R q) (p : Nat) (hp : p < 6) : ∀ d k n, k + d = rN R → d < n → F_113_33 n (nn p) (sc R p) (sfC R p k) (nn k) im lm = some (if sc R p < sfC R p (rN R) then -10000005 else sfC R p (rN R), im, lm) := by
  have h6 := hG.1.2
  have b2 : im 17 1 = nn (rN R) := hn.1.1.2.1.trans hG.1.1
  intro d
  induction d with
  | zero =>
    intro k n hk hn'
    obtain ⟨m, rfl⟩ : ∃ m, n = m + 1 := ⟨n - 1, by omega⟩
    have : k = rN R := by omega
    subst this
    unfold F_113_33
    rw [b2, if_pos (Int32.le_refl _)]
  | succ d ih =>
    intro k n hk hn'
    obtain ⟨m, rfl⟩ : ∃ m, n = m + 1 := ⟨n - 1, by omega⟩
    have h0 : ¬ (nn (rN R) ≤ nn k) := nn_ge k _ (by omega) (by omega)
    have hkp : (nn k = nn p) = (k = p) := nn_inj _ _ (by omega) (by omega)
    unfold F_113_33
    rw [b2, if_neg h0]
    simp (disch := omega) only [nn_mull, nn_mulr, nn_addl, nn_addr, nn_add, nn_mul, tn_nn, tn_l, inb_nn, inb_l, zCk_t, ite_self, zBd_s, hkp]
    rw [(nw_sc hn k (by omega)).1, ← ih (k + 1) m (by omega) (by omega)]
    congr 1
theorem Q_sf {R : Nat → Int32} (hG : GD R) (p : Int32) : QC (m_113 p) R (qSf R p) := by
  intro im lm q hn
  have h6 := hG.1.2
  have b2 := hn.1.1.2.1
  unfold qSf m_113
  rw [b2]
  rcases ix_cases hG.1.1 (by omega) p with h | ⟨k, hk, rfl⟩
  · rw [if_pos h, (ix_no hG.1.1 (by omega) h).1, if_pos rfl]
  rw [if_neg (ix_not hG.1.1 (by omega) hk), (ix_yes hG.1.1 (by omega) hk).1, if_neg (by decide)]
  simp (disch := omega) only [nn_mull, nn_mulr, nn_addl, nn_addr, nn_add, nn_mul, tn_nn, tn_l, inb_nn, inb_l, zCk_t, ite_self, zBd_s]
  rw [(nw_sc hn k (by omega)).1]
  by_cases g : 0 < sc R k
  · rw [if_pos g, if_pos g]
    exact s113 hG hn k (by omega) (rN R) 0 2000 (by omega) (by omega)
  · rw [if_neg g, if_neg g]