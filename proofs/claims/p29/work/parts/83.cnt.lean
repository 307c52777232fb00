/-! BUZZES: bits of longs; the tick that counts *-/
theorem s6_l : ∀ n, n < 64 → (((nn n).toInt64 &&& 63).toBitVec.smod 64).toNat = n := by decide +kernel
theorem b6_ext {x y : Int64} (h : ∀ i, i < 64 → b6 x i = b6 y i) : x = y := Int64.toBitVec_inj.mp (BitVec.eq_of_getLsbD_eq (fun i hi => h i hi))
theorem b6_and (x y : Int64) (i : Nat) : b6 (x &&& y) i = (b6 x i && b6 y i) := by unfold b6; rw [Int64.toBitVec_and, BitVec.getLsbD_and]
theorem b6_or (x y : Int64) (i : Nat) : b6 (x ||| y) i = (b6 x i || b6 y i) := by unfold b6; rw [Int64.toBitVec_or, BitVec.getLsbD_or]
theorem b6_big {x : Int64} {i : Nat} (h : 64 ≤ i) : b6 x i = false := BitVec.getLsbD_of_ge _ _ h
theorem b6_1 (i : Nat) : b6 1 i = decide (i = 0) := by
  rcases Nat.lt_or_ge i 64 with h | h
  · exact (by decide +kernel : ∀ i, i < 64 → b6 1 i = decide (i = 0)) i h
  · rw [b6_big h, decide_eq_false (by omega)]
theorem b6_shr0 (x : Int64) (n : Nat) (hn : n < 64) {i : Nat} (hi : i < 64) : b6 (zflshr x (nn n)) i = if n + i < 64 then b6 x (n + i) else b6 x 63 := by
  unfold b6
  rw [Int64.toBitVec_shiftRight]
  show (x.toBitVec.sshiftRight (((nn n).toInt64 &&& 63).toBitVec.smod 64).toNat).getLsbD i = _
  rw [s6_l n hn, BitVec.getLsbD_sshiftRight, BitVec.msb_eq_getLsbD_last]
  simp [hi]
theorem b6_get (x : Int64) (n : Nat) (hn : n < 64) : ((zflshr x (nn n)) &&& 1) = if b6 x n = true then 1 else 0 := by
  apply b6_ext
  intro i hi
  rw [b6_and, b6_shr0 x n hn hi, b6_1]
  by_cases h : i = 0
  · subst h
    rw [if_pos (by omega), Nat.add_zero]
    cases b6 x n
    · rw [if_neg (by decide), b6_0]; rfl
    · rw [if_pos rfl, b6_1]; rfl
  · rw [decide_eq_false h, Bool.and_false]
    cases b6 x n
    · rw [if_neg (by decide), b6_0]
    · rw [if_pos rfl, b6_1, decide_eq_false h]
theorem b6_shl (n : Nat) (hn : n < 64) (i : Nat) : b6 (zflshl 1 (nn n)) i = decide (i = n) := by
  rcases Nat.lt_or_ge i 64 with h | h
  · have e : b6 (zflshl 1 (nn n)) i = (decide (n ≤ i) && b6 1 (i - n)) := by
      unfold b6
      rw [Int64.toBitVec_shiftLeft]
      show ((1 : Int64).toBitVec <<< (((nn n).toInt64 &&& 63).toBitVec.smod 64).toNat).getLsbD i = _
      rw [s6_l n hn, BitVec.getLsbD_shiftLeft]
      rcases Nat.lt_or_ge i n with h1 | h1
      · simp [h1, Nat.not_le.mpr h1]
      · simp [h, h1, Nat.not_lt.mpr h1]
    rw [e, b6_1]
    by_cases h1 : i = n
    · subst h1; simp
    · rw [decide_eq_false h1]
      by_cases h2 : n ≤ i
      · rw [decide_eq_false (by omega : ¬ i - n = 0), Bool.and_false]
      · rw [decide_eq_false h2, Bool.false_and]
  · rw [b6_big h, decide_eq_false (by omega)]
theorem lg_10 : lg_cmp (1 : Int64) 1 = 0 ∧ ¬ lg_cmp (0 : Int64) 1 = 0 := by decide +kernel
theorem s52 (im : zI) (lm : zJ) (p t : Nat) (hp : p < 6) (ht : t < 100) : m_52 (nn p) (nn t) im lm = some (if tld lm 17 p t = true then 1 else 0, im, lm) := by
  unfold m_52 J_52_21 tld
  rw [rem_l t 64 (by omega) (by decide)]
  simp (disch := omega) only [nn_mull, nn_mulr, nn_addl, nn_addr, nn_add, nn_mul, tn_nn, tn_l, inb_nn, inb_l, zCk_t, ite_self, zBd_s]
  rw [show (64 : Int32) = nn 64 from rfl, b6_get _ _ (Nat.mod_lt _ (by decide))]
  by_cases h : t < 64
  · have h1 : ¬ (nn 64 ≤ nn t) := nn_ge t 64 h (by omega)
    rw [if_neg h1, if_pos h]
    show some (if lg_cmp (if b6 (lm 21 p) (t % 64) = true then 1 else 0) 1 = 0 then 1 else 0, im, lm) = some (if b6 (lm 21 p) t = true then 1 else 0, im, lm)
    rw [Nat.mod_eq_of_lt h]
    cases b6 (lm 21 p) t
    · simp only [Bool.false_eq_true, if_false, lg_10.2]
    · rw [if_pos rfl, if_pos lg_10.1]; rfl
  · have h1 : nn 64 ≤ nn t := by rw [nn_le _ _ (by omega) (by omega)]; omega
    rw [if_pos h1, if_neg h]
    show some (if lg_cmp (if b6 (lm 22 p) (t % 64) = true then 1 else 0) 1 = 0 then 1 else 0, im, lm) = some (if b6 (lm 22 p) (t - 64) = true then 1 else 0, im, lm)
    rw [show t % 64 = t - 64 by omega]
    cases b6 (lm 22 p) (t - 64)
    · simp only [Bool.false_eq_true, if_false, lg_10.2]
    · rw [if_pos rfl, if_pos lg_10.1]; rfl
theorem eol_le (f : Nat → Bool) (lk : Nat) : ∀ d k a, a ≤ k + d + lk → zIt (eolS f lk) d k a ≤ k + d + lk := by
  intro d
  induction d with
  | zero => intro k a h; exact h
  | succ d ih =>
    intro k a h
    show zIt (eolS f lk) d (k + 1) (eolS f lk k a) ≤ _
    have := ih (k + 1) (eolS f lk k a) (by
      unfold eolS
      by_cases h1 : f k = true
      · rw [if_pos h1]
        by_cases h2 : a < k + lk
        · rw [if_pos h2]; omega
        · rw [if_neg h2]; omega
      · rw [if_neg h1]; omega)
    omega
theorem eolF_le (f : Nat → Bool) (rd lk : Nat) : eolF f rd lk ≤ rd + lk := by
  have := eol_le f lk rd 0 rd (by omega)
  unfold eolF; omega
/-- the class: the end of the lock -/
theorem s53 (im : zI) (lm : zJ) (p rd lk : Nat) (hp : p < 6) (hr : rd ≤ 30) (hl : lk ≤ 30) (h1 : im 19 1 = nn rd) (h2 : im 19 2 = nn lk) : ∀ d k n a, k + d = rd → d < n → a ≤ 60 → F_53_7 n (nn p) (nn a) (nn k) im lm = some (nn (zIt (eolS (tld lm 17 p) lk) d k a), im, lm) := by
  intro d
  induction d with
  | zero =>
    intro k n a hk hn ha
    obtain ⟨m, rfl⟩ : ∃ m, n = m + 1 := ⟨n - 1, by omega⟩
    have : k = rd := by omega
    subst this
    unfold F_53_7
    rw [h1, if_pos (Int32.le_refl _)]; rfl
  | succ d ih =>
    intro k n a hk hn ha
    obtain ⟨m, rfl⟩ : ∃ m, n = m + 1 := ⟨n - 1, by omega⟩
    have h0 : ¬ (nn rd ≤ nn k) := nn_ge k rd (by omega) (by omega)
    have e : (if (if tld lm 17 p k = true then (1 : Int32) else 0) = 0 then nn a else (if nn a < (nn k + nn lk) then (nn k + nn lk) else nn a)) = nn (eolS (tld lm 17 p) lk k a) := by
      unfold eolS
      rw [nn_add]
      cases tld lm 17 p k
      · rfl
      · rw [if_pos rfl, if_pos rfl, if_neg (by decide)]
        by_cases g : a < k + lk
        · rw [if_pos g, if_pos (by rw [nn_lt _ _ (by omega) (by omega)]; exact g)]
        · rw [if_neg g, if_neg (by rw [nn_lt _ _ (by omega) (by omega)]; exact g)]
    unfold F_53_7
    rw [h1, if_neg h0, s52 im lm p k hp (by omega), zBd_s, h2, e, nn_addr]
    refine ih (k + 1) m _ (by omega) (by omega) ?_
    unfold eolS
    by_cases g1 : tld lm 17 p k = true
    · rw [if_pos g1]
      by_cases g2 : a < k + lk
      · rw [if_pos g2]; omega
      · rw [if_neg g2]; exact ha
    · rw [if_neg g1]; exact ha
theorem s54 (im : zI) (lm : zJ) (p : Nat) (hp : p < 6) : ∀ d k n, k + d = 100 → d < n → F_54_6 n (nn p) (nn k) im lm = some (orN (fstF (tld lm 17 p) d k), im, lm) := by
  intro d
  induction d with
  | zero =>
    intro k n hk hn
    obtain ⟨m, rfl⟩ : ∃ m, n = m + 1 := ⟨n - 1, by omega⟩
    have : k = 100 := by omega
    subst this
    unfold F_54_6 fstF
    rw [if_pos (show (100 : Int32) ≤ nn 100 from Int32.le_refl _), orN_m]
  | succ d ih =>
    intro k n hk hn
    obtain ⟨m, rfl⟩ : ∃ m, n = m + 1 := ⟨n - 1, by omega⟩
    have h0 : ¬ ((100 : Int32) ≤ nn k) := nn_ge k 100 (by omega) (by omega)
    unfold F_54_6 fstF
    rw [if_neg h0, s52 im lm p k hp (by omega), zBd_s]
    cases hb : tld lm 17 p k
    · rw [if_neg (show ¬ (false = true) by decide), if_pos rfl, if_neg (show ¬ (false = true) by decide), nn_addr]
      exact ih (k + 1) m (by omega) (by omega)
    · rw [if_pos rfl, if_neg (by decide), if_pos rfl, orN_n _ (by omega)]
/-- the class: the least tick that counts -/
theorem s54w (im : zI) (lm : zJ) (p rd lk : Nat) (hp : p < 6) (hr : rd ≤ 30) (hl : lk ≤ 30) (h1 : im 19 1 = nn rd) (h2 : im 19 2 = nn lk) : m_54 (nn p) im lm = some (orN (cntF (tld lm 17 p) rd lk), im, lm) := by
  have hle := eolF_le (tld lm 17 p) rd lk
  unfold m_54 m_53
  rw [h1, show F_53_7 2000 (nn p) (nn rd) 0 im lm = _ from s53 im lm p rd lk hp hr hl h1 h2 rd 0 2000 rd (by omega) (by omega) (by omega), zBd_s]
  exact s54 im lm p hp (100 - eolF (tld lm 17 p) rd lk) _ 2000 (by unfold eolF at *; omega) (by omega)
/-! the model -/
theorem eolS_max (f : Nat → Bool) (lk t a b : Nat) : eolS f lk t (max a b) = max a (eolS f lk t b) := by
  unfold eolS
  by_cases h1 : f t = true
  · rw [if_pos h1, if_pos h1]
    by_cases h2 : max a b < t + lk
    · rw [if_pos h2, if_pos (by omega)]; omega
    · rw [if_neg h2]
      by_cases h3 : b < t + lk
      · rw [if_pos h3]; omega
      · rw [if_neg h3]
  · rw [if_neg h1, if_neg h1]
theorem eol_max (f : Nat → Bool) (lk : Nat) : ∀ d k a b, zIt (eolS f lk) d k (max a b) = max a (zIt (eolS f lk) d k b) := by
  intro d
  induction d with
  | zero => intro k a b; rfl
  | succ d ih =>
    intro k a b
    show zIt (eolS f lk) d (k + 1) (eolS f lk k (max a b)) = max a (zIt (eolS f lk) d (k + 1) (eolS f lk k b))
    rw [eolS_max, ih]
/-- what counts is a tick, or -1 -/
theorem fst_v (f : Nat → Bool) : ∀ d t, t + d ≤ 100 → fstF f d t = -1 ∨ ∃ x, x < 100 ∧ fstF f d t = nn x := by
  intro d
  induction d with
  | zero => intro t _; exact Or.inl rfl
  | succ d ih =>
    intro t h
    unfold fstF
    by_cases g : f t = true
    · rw [if_pos g]; exact Or.inr ⟨t, by omega, rfl⟩
    · rw [if_neg g]; exact ih (t + 1) (by omega)
theorem cnt_v {R : Nat → Int32} (hG : GD R) (p : Nat) : cnt R p = -1 ∨ ∃ x, x < 100 ∧ cnt R p = nn x := by
  obtain ⟨_, _, _, ⟨rd, hr, h3⟩, ⟨lk, hl, h4⟩⟩ := hG.2.2.2.2.2.2.1
  unfold cnt cntF
  have hle := eolF_le (told R p) (R 3).toNatClampNeg (R 4).toNatClampNeg
  rw [h3, h4, tn_nn _ (by omega), tn_nn _ (by omega)] at hle ⊢
  exact fst_v _ _ _ (by omega)
