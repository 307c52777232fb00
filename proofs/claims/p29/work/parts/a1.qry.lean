/-! QUESTIONS all at once; low, wagers, safe *-/
def QF (im : zI) (lm : zJ) (R : Nat → Int32) (q : Int32) : Prop :=
  (∀ p w, m_156 p w im lm = some (qPl R p w, im, lm)) ∧ (∀ x, m_163 x im lm = some (qOr R x, im, lm)) ∧ (∀ x, m_166 x im lm = some (qQu R x, im, lm)) ∧ (∀ x w, m_169 x w im lm = some (qCl R x w, im, lm)) ∧ (∀ e w, m_172 e w im lm = some (qEn R e w, im, lm)) ∧ (∀ p, m_113 p im lm = some (qSf R p, im, lm)) ∧ ∀ w, ¬ w = 12 → ¬ w = 13 → m_177 w im lm = some (qC R q w, im, lm)
theorem QF_of {im : zI} {lm : zJ} {R : Nat → Int32} {q : Int32} {X : zX} (hc : CI im lm R q X) : QF im lm R q :=
  ⟨fun p w => CI_q (Q_pl hc.1 p w) hc, fun x => CI_q (Q_or hc.1 x) hc, fun x => CI_q (Q_qu hc.1 x) hc, fun x w => CI_q (Q_cl hc.1 x w) hc, fun e w => CI_q (Q_en hc.1 e w) hc, fun p => CI_q (Q_sf hc.1 p) hc, fun w h1 h2 => C_co hc w h1 h2⟩
theorem c_v (R : Nat → Int32) (q : Int32) : qC R q 0 = R 0 ∧ qC R q 1 = R 1 ∧ qC R q 2 = 25 - nn (pop (R 10)) ∧ qC R q 3 = orN (R 2) ∧ qC R q 4 = (if rN R = 0 then -10000005 else nn (ctl R)) ∧ qC R q 5 = R 5 ∧ qC R q 6 = zIt (ldS R) (rN R) 0 0 ∧ qC R q 7 = smN R (rN R) ∧ qC R q 8 = R 6 ∧ qC R q 9 = R 7 ∧ qC R q 10 = R 8 ∧ qC R q 11 = q ∧ qC R q 14 = (if R 0 = 5 then nxt R (aF R) (-10000005) else -10000005) ∧ qC R q 15 = -10000002 := by
  unfold qC qCo
  refine ⟨?_, ?_, ?_, ?_, ?_, ?_, ?_, ?_, ?_, ?_, ?_, ?_, ?_, ?_⟩ <;> simp
/-- count, number by number -/
theorem QF_c {im : zI} {lm : zJ} {R : Nat → Int32} {q : Int32} (h : QF im lm R q) : m_177 0 im lm = some (R 0, im, lm) ∧ m_177 1 im lm = some (R 1, im, lm) ∧ m_177 2 im lm = some (25 - nn (pop (R 10)), im, lm) ∧ m_177 3 im lm = some (orN (R 2), im, lm) ∧ m_177 4 im lm = some ((if rN R = 0 then -10000005 else nn (ctl R)), im, lm) ∧ m_177 5 im lm = some (R 5, im, lm) ∧ m_177 6 im lm = some (zIt (ldS R) (rN R) 0 0, im, lm) ∧ m_177 7 im lm = some (smN R (rN R), im, lm) ∧ m_177 11 im lm = some (q, im, lm) ∧ m_177 14 im lm = some ((if R 0 = 5 then nxt R (aF R) (-10000005) else -10000005), im, lm) ∧ m_177 15 im lm = some (-10000002, im, lm) := by
  obtain ⟨c0, c1, c2, c3, c4, c5, c6, c7, c8, c9, c10, c11, c14, c15⟩ := c_v R q
  have h := h.2.2.2.2.2.2
  refine ⟨?_, ?_, ?_, ?_, ?_, ?_, ?_, ?_, ?_, ?_, ?_⟩
  · rw [h 0 (by decide) (by decide), c0]
  · rw [h 1 (by decide) (by decide), c1]
  · rw [h 2 (by decide) (by decide), c2]
  · rw [h 3 (by decide) (by decide), c3]
  · rw [h 4 (by decide) (by decide), c4]
  · rw [h 5 (by decide) (by decide), c5]
  · rw [h 6 (by decide) (by decide), c6]
  · rw [h 7 (by decide) (by decide), c7]
  · rw [h 11 (by decide) (by decide), c11]
  · rw [h 14 (by decide) (by decide), c14]
  · rw [h 15 (by decide) (by decide), c15]
theorem and_nn (x : Int32) : ∃ m, m < 2147483648 ∧ x &&& 2147483647 = nn m := by
  have h0 : (0 : Int32) ≤ x &&& 2147483647 := by
    rw [Int32.le_iff_toInt_le]
    show (0 : Int32).toInt ≤ (x &&& 2147483647).toBitVec.toInt
    have h1 : (x &&& 2147483647).toBitVec.msb = false := by
      rw [Int32.toBitVec_and, BitVec.msb_and]
      have : ((2147483647 : Int32).toBitVec).msb = false := by decide +kernel
      rw [this, Bool.and_false]
    rw [BitVec.msb_eq_toInt] at h1
    have h2 := of_decide_eq_false h1
    have e0 : (0 : Int32).toInt = 0 := by decide +kernel
    omega
  obtain ⟨h1, h2⟩ := nn_of _ h0
  exact ⟨_, h2, h1⟩
theorem rem_nn (a b : Nat) (ha : a < 2147483648) (hb : b < 2147483648) : zfirem (nn a) (nn b) = nn (a % b) := by
  show nn a - nn a / nn b * nn b = nn (a % b)
  rw [tdiv_nn a b ha hb, nn_mul, nn_sub _ _ (Nat.div_mul_le_self a b) ha]
  have h1 := Nat.div_add_mod a b
  have h2 : a - a / b * b = a % b := by
    rw [Nat.mul_comm]
    generalize b * (a / b) = q at h1
    omega
  rw [h2]
theorem low_ok (x : Int32) (n : Nat) (hn : 0 < n) (h : n < 2147483648) : ∃ k, k < n ∧ ∀ im lm, m_189 x (nn n) im lm = some (nn k, im, lm) := by
  obtain ⟨m, hm, e⟩ := and_nn x
  refine ⟨m % n, Nat.mod_lt _ hn, fun im lm => ?_⟩
  unfold m_189
  have : ¬ nn n = 0 := by rw [show (0 : Int32) = nn 0 from rfl, nn_inj _ _ h (by omega)]; omega
  rw [e, rem_nn m n hm h, decide_eq_false this]
  rfl
theorem m_190_ok2 {im : zI} {lm : zJ} {R : Nat → Int32} {q : Int32} (h : QF im lm R q) : ∀ d k n, k + d = 25 → d < n → F_190_4 n (nn (cntN (fun i => bt (R 11) i) k)) (nn k) im lm = some (nn (pop (R 11)), im, lm) := by
  intro d
  induction d with
  | zero =>
    intro k n hk hn
    obtain ⟨m, rfl⟩ : ∃ m, n = m + 1 := ⟨n - 1, by omega⟩
    have : k = 25 := by omega
    subst this
    unfold F_190_4
    rw [if_pos (show (25 : Int32) ≤ nn 25 from Int32.le_refl _)]
    rfl
  | succ d ih =>
    intro k n hk hn
    obtain ⟨m, rfl⟩ : ∃ m, n = m + 1 := ⟨n - 1, by omega⟩
    unfold F_190_4
    rw [if_neg (show ¬ (25 : Int32) ≤ nn k from nn_ge k 25 (by omega) (by omega)), h.2.2.2.1, (q_cl R (c := k) (by omega)).2.1, zBd_s]
    have e : nn (cntN (fun i => bt (R 11) i) k) + zb (bt (R 11) k = true) = nn (cntN (fun i => bt (R 11) i) (k + 1)) := by
      show _ = nn (cntN (fun i => bt (R 11) i) k + (if bt (R 11) k = true then 1 else 0))
      cases hb : bt (R 11) k
      · rw [zb_f (by decide), if_neg (by decide)]; exact Int32.add_zero _
      · rw [zb_t rfl, if_pos rfl]; exact nn_add _ 1
    rw [e, show nn k + 1 = nn (k + 1) from nn_addr k 1]
    exact ih (k + 1) m (by omega) (by omega)
theorem m_190_v {im : zI} {lm : zJ} {R : Nat → Int32} {q : Int32} (h : QF im lm R q) : m_190 im lm = some (nn (pop (R 11)), im, lm) := m_190_ok2 h 25 0 2000 rfl (by omega)
/-! safe -/
def mstS (R : Nat → Int32) (p : Nat) : Nat → Int32
  | 0 => -99999999
  | k + 1 => if k = p then mstS R p k else if dbl (sc R k) ≤ mstS R p k then mstS R p k else dbl (sc R k)
theorem i_l9 : (-99999999 : Int32).toInt = -99999999 := by decide +kernel
theorem mst_e {R : Nat → Int32} (hG : GD R) (p : Nat) : ∀ k, -99999999 ≤ (mstS R p k).toInt ∧ (mstS R p k).toInt ≤ 12000000 ∧ (sfC R p k).toInt = max 0 ((mstS R p k).toInt + 1 - (sc R p).toInt) := by
  obtain ⟨e2, e1, e0, em⟩ := i_lits
  intro k
  induction k with
  | zero =>
    have h1 := GD_sc hG p
    refine ⟨?_, ?_, ?_⟩
    · show -99999999 ≤ (-99999999 : Int32).toInt; rw [i_l9]; decide
    · show (-99999999 : Int32).toInt ≤ 12000000; rw [i_l9]; decide
    · show (0 : Int32).toInt = max 0 ((-99999999 : Int32).toInt + 1 - (sc R p).toInt)
      rw [i_l9, e0]; omega
  | succ k ih =>
    obtain ⟨b1, b2, ih⟩ := ih
    have hs := GD_sc hG p
    have hd := dbl_b hG k
    have hm := sfM_b hG p k
    have hf := sf_e hG p k
    show -99999999 ≤ (if k = p then mstS R p k else if dbl (sc R k) ≤ mstS R p k then mstS R p k else dbl (sc R k) : Int32).toInt ∧ (if k = p then mstS R p k else if dbl (sc R k) ≤ mstS R p k then mstS R p k else dbl (sc R k) : Int32).toInt ≤ 12000000 ∧ _ = max 0 ((if k = p then mstS R p k else if dbl (sc R k) ≤ mstS R p k then mstS R p k else dbl (sc R k) : Int32).toInt + 1 - (sc R p).toInt)
    unfold sfC
    by_cases g : k = p
    · simp only [g, if_true] at ih ⊢
      rw [g] at b1 b2
      exact ⟨b1, b2, ih⟩
    · simp only [g, if_false]
      have ht : (dbl (sc R k) + 1 - sc R p).toInt = (dbl (sc R k)).toInt + 1 - (sc R p).toInt := by
        have h1 : (dbl (sc R k) + 1).toInt = (dbl (sc R k)).toInt + 1 := by rw [ti_add _ _ (by rw [e1]; omega) (by rw [e1]; omega), e1]
        rw [ti_sub _ _ (by rw [h1]; omega) (by rw [h1]; omega), h1]
      by_cases g2 : dbl (sc R k) ≤ mstS R p k
      · rw [if_pos g2]
        rw [Int32.le_iff_toInt_le] at g2
        by_cases g3 : sfC R p k < dbl (sc R k) + 1 - sc R p
        · rw [Int32.lt_iff_toInt_lt, ht] at g3; omega
        · rw [if_neg g3]; exact ⟨b1, b2, ih⟩
      · rw [if_neg g2]
        rw [Int32.le_iff_toInt_le] at g2
        by_cases g3 : sfC R p k < dbl (sc R k) + 1 - sc R p
        · rw [if_pos g3]
          rw [Int32.lt_iff_toInt_lt, ht] at g3
          rw [ht]; omega
        · rw [if_neg g3]
          rw [Int32.lt_iff_toInt_lt, ht] at g3; omega
theorem m_197_l {im : zI} {lm : zJ} {R : Nat → Int32} {q : Int32} (hG : GD R) (h : QF im lm R q) (p : Nat) (hp : p < rN R) : ∀ d k n, k + d = rN R → d < n → F_197_13 n (nn p) (mstS R p k) (sc R p) (nn k) im lm = some (1, im, lm) := by
  obtain ⟨e2, e1, e0, em⟩ := i_lits
  have h6 := hG.1.2
  intro d
  induction d with
  | zero =>
    intro k n hk hn
    obtain ⟨m, rfl⟩ : ∃ m, n = m + 1 := ⟨n - 1, by omega⟩
    have : k = rN R := by omega
    subst this
    have hs := GD_sc hG p
    obtain ⟨b1, b2, b3⟩ := mst_e hG p (rN R)
    unfold F_197_13
    rw [(QF_c h).2.1, zBd_s, hG.1.1, if_pos (Int32.le_refl _), h.2.2.2.2.2.1, zBd_s]
    unfold J_197_96
    have hq : qSf R (nn p) = if 0 < sc R p then (if sc R p < sfC R p (rN R) then -10000005 else sfC R p (rN R)) else -10000005 := by
      unfold qSf; rw [if_neg (ix_nb hG hp), tn_nn p (by omega)]
    rw [hq]
    generalize sfC R p (rN R) = v at b3
    generalize mstS R p (rN R) = mo at b1 b2 b3
    generalize sc R p = s at hs b3
    have t2 : (2 * s).toInt = 2 * s.toInt := by rw [ti_mul _ _ (by rw [e2]; omega) (by rw [e2]; omega), e2]
    have n5 : (-10000005 : Int32).toInt = -10000005 := by decide +kernel
    by_cases g1 : 0 < s
    · have g1' : ¬ s ≤ 0 := by rw [Int32.lt_iff_toInt_lt] at g1; rw [Int32.le_iff_toInt_le]; omega
      rw [if_pos g1, if_neg g1']
      rw [Int32.lt_iff_toInt_lt, e0] at g1
      by_cases g2 : 2 * s ≤ mo
      · have g3 : s < v := by rw [Int32.le_iff_toInt_le, t2] at g2; rw [Int32.lt_iff_toInt_lt]; omega
        rw [if_pos g2, if_pos g3]; simp
      · have g3 : ¬ s < v := by rw [Int32.le_iff_toInt_le, t2] at g2; rw [Int32.lt_iff_toInt_lt]; omega
        rw [Int32.le_iff_toInt_le, t2] at g2
        rw [Int32.lt_iff_toInt_lt] at g3
        have t3 : (s + v).toInt = s.toInt + v.toInt := ti_add _ _ (by omega) (by omega)
        have t4 : (s + v - 1).toInt = s.toInt + v.toInt - 1 := by rw [ti_sub _ _ (by rw [t3, e1]; omega) (by rw [t3, e1]; omega), t3, e1]
        have a1 : ¬ v < 0 := by rw [Int32.lt_iff_toInt_lt, e0]; omega
        have a2 : ¬ s + v ≤ mo := by rw [Int32.le_iff_toInt_le, t3]; omega
        have a3 : ¬ s < v := by rw [Int32.lt_iff_toInt_lt]; exact g3
        have a4 : ¬ 2 * s ≤ mo := by rw [Int32.le_iff_toInt_le, t2]; exact g2
        rw [if_neg a4, if_neg a3, if_neg (show ¬ (1 : Int32) = 0 by decide), if_neg a1, if_neg a3, if_neg a2]
        by_cases g5 : v = 0
        · rw [if_pos g5]
        · have a5 : ¬ mo < s + v - 1 := by rw [Int32.lt_iff_toInt_lt, t4]; rw [ti_eq, e0] at g5; omega
          rw [if_neg g5, if_neg a5]
    · have g1' : s ≤ 0 := by rw [Int32.lt_iff_toInt_lt] at g1; rw [Int32.le_iff_toInt_le]; omega
      rw [if_neg g1, if_pos g1']; simp
  | succ d ih =>
    intro k n hk hn
    obtain ⟨m, rfl⟩ : ∃ m, n = m + 1 := ⟨n - 1, by omega⟩
    have h0 : ¬ nn (rN R) ≤ nn k := by rw [nn_le _ _ (by omega) (by omega)]; omega
    unfold F_197_13
    rw [(QF_c h).2.1, zBd_s, hG.1.1, if_neg h0, h.1, (q_pl hG (show k < rN R by omega)).1, zBd_s]
    unfold J_197_46
    have hm : (if nn k = nn p then mstS R p k else if (if sc R k ≤ 0 then sc R k else 2 * sc R k) ≤ mstS R p k then mstS R p k else if sc R k ≤ 0 then sc R k else 2 * sc R k) = mstS R p (k + 1) := by
      show _ = if k = p then mstS R p k else if dbl (sc R k) ≤ mstS R p k then mstS R p k else dbl (sc R k)
      by_cases g : k = p
      · rw [if_pos g, if_pos (by rw [g])]
      · rw [if_neg g, if_neg (by rw [nn_inj _ _ (by omega) (by omega)]; exact g)]; rfl
    rw [show nn k + 1 = nn (k + 1) from nn_addr k 1, hm]
    exact ih (k + 1) m (by omega) (by omega)
theorem m_197_v {im : zI} {lm : zJ} {R : Nat → Int32} {q : Int32} (hG : GD R) (h : QF im lm R q) (p : Nat) (hp : p < rN R) : m_197 (nn p) im lm = some (1, im, lm) := by
  unfold m_197
  rw [h.1, (q_pl hG hp).1, zBd_s]
  exact m_197_l hG h p hp (rN R) 0 2000 (by omega) (by have := hG.1.2; omega)
