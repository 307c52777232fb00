/-! THE MODEL WRITES its text *-/
def TM (im : zI) (l : List Int32) : Prop := im 170 20 = nn l.length ∧ l.length ≤ 90 ∧ ∀ j, j < l.length → l[j]? = some (im 186 j)
def FW (im im' : zI) : Prop := (∀ a, a ≠ 170 → a ≠ 186 → im' a = im a) ∧ ∀ j, j ≠ 20 → im' 170 j = im 170 j
theorem FW_r (im : zI) : FW im im := ⟨fun _ _ _ => rfl, fun _ _ => rfl⟩
theorem FW_t {im im' im2 : zI} (h : FW im im') (h2 : FW im' im2) : FW im im2 := ⟨fun a g1 g2 => (h2.1 a g1 g2).trans (h.1 a g1 g2), fun j g => (h2.2 j g).trans (h.2 j g)⟩
theorem s209 {im : zI} (lm : zJ) {k : Nat} (h : im 170 20 = nn k) (hk : k < 160) (x : Int32) : m_209 x im lm = some (0, zeU2 (zeU2 im 186 k x) 170 20 (nn (k + 1)), lm) := by
  unfold m_209
  rw [h]
  simp (disch := omega) only [nn_mull, nn_mulr, nn_addl, nn_addr, nn_add, nn_mul, tn_nn, tn_l, inb_nn, inb_l, zCk_t, ite_self, zBd_s, zCk_t]
theorem tm_209 {im : zI} (lm : zJ) {l : List Int32} (h : TM im l) (hl : l.length + 1 ≤ 90) (x : Int32) : ∃ im', m_209 x im lm = some (0, im', lm) ∧ TM im' (l ++ [x]) ∧ FW im im' := by
  obtain ⟨h1, h2, h3⟩ := h
  refine ⟨_, s209 lm h1 (by omega) x, ⟨?_, ?_, ?_⟩, fun a g1 g2 => by rw [u2n _ _ _ _ _ g1, u2n _ _ _ _ _ g2], fun j g => by rw [u2_j _ _ _ _ _ _ g, u2n _ _ _ _ _ (by decide)]⟩
  · rw [u2_s, List.length_append]; rfl
  · rw [List.length_append]; exact hl
  · intro j hj
    rw [List.length_append, show [x].length = 1 from rfl] at hj
    rw [u2n _ _ _ _ _ (by decide)]
    by_cases g : j = l.length
    · subst g; rw [u2_s, List.getElem?_append_right (Nat.le_refl _), Nat.sub_self]; rfl
    · rw [u2_j _ _ _ _ _ _ g, List.getElem?_append_left (by omega)]
      exact h3 j (by omega)
theorem s210_39 (lm : zJ) {l : List Int32} {n d : Nat} (hn : dgt n d) (hd : d ≤ 7) (hl : l.length + d ≤ 90) : ∀ e k N (im : zI), k + e = d → e < N → im 170 20 = nn (l.length + k) → (∀ j, j < l.length + k → (l ++ dgl n d)[j]? = some (im 186 j)) → ∃ im', F_210_39 N (nn n) (if k = d then 0 else nn (10 ^ (d - 1 - k))) im lm = some (0, im', lm) ∧ TM im' (l ++ dgl n d) ∧ FW im im' := by
  have hp := p10_le hd
  have hp7 : (10 : Nat) ^ 7 = 10000000 := rfl
  have hnb := hn.2.1
  intro e
  induction e with
  | zero =>
    intro k N im hk hN h1 h2
    obtain ⟨N, rfl⟩ : ∃ m, N = m + 1 := ⟨N - 1, by omega⟩
    have : k = d := by omega
    subst this
    refine ⟨im, ?_, ⟨?_, ?_, ?_⟩, FW_r im⟩
    · rw [if_pos rfl, F_210_39.eq_2, if_pos (Int32.le_refl _)]
    · rw [List.length_append, dgl_l]; exact h1
    · rw [List.length_append, dgl_l]; exact hl
    · intro j hj; rw [List.length_append, dgl_l] at hj; exact h2 j hj
  | succ e ih =>
    intro k N im hk hN h1 h2
    obtain ⟨N, rfl⟩ : ∃ m, N = m + 1 := ⟨N - 1, by omega⟩
    have hq := p10_le (show d - 1 - k ≤ 7 by omega)
    have hq0 : 0 < 10 ^ (d - 1 - k) := Nat.pow_pos (by decide)
    have hne : ¬ nn (10 ^ (d - 1 - k)) = 0 := by rw [show (0 : Int32) = nn 0 from rfl, nn_inj _ _ (by omega) (by omega)]; omega
    have hdv : nn n / nn (10 ^ (d - 1 - k)) = nn (n / 10 ^ (d - 1 - k)) := tdiv_nn n _ (by omega) (by omega)
    have hdb : n / 10 ^ (d - 1 - k) ≤ n := Nat.div_le_self _ _
    have hnx : nn (10 ^ (d - 1 - k)) / 10 = if k + 1 = d then 0 else nn (10 ^ (d - 1 - (k + 1))) := by
      rw [show nn (10 ^ (d - 1 - k)) / 10 = nn (10 ^ (d - 1 - k) / 10) from div_l _ 10 (by omega) (by decide)]
      by_cases g : k + 1 = d
      · rw [if_pos g, show d - 1 - k = 0 by omega]; rfl
      · rw [if_neg g, show d - 1 - k = (d - 1 - (k + 1)) + 1 by omega, p10_s, Nat.mul_div_cancel_left _ (by decide)]
    obtain ⟨im', a1, a2, a3⟩ := ih (k + 1) N (zeU2 (zeU2 im 186 (l.length + k) (nn (48 + n / 10 ^ (d - 1 - k) % 10))) 170 20 (nn (l.length + k + 1))) (by omega) (by omega) (u2_s _ _ _ _) (by
      intro j hj
      rw [u2n _ _ _ _ _ (by decide)]
      by_cases g : j = l.length + k
      · subst g; rw [u2_s, List.getElem?_append_right (by omega), dgl_g _ _ _ (by omega), show l.length + k - l.length = k by omega]
      · rw [u2_j _ _ _ _ _ _ g]; exact h2 j (by omega))
    refine ⟨im', ?_, a2, FW_t ⟨fun a g1 g2 => by rw [u2n _ _ _ _ _ g1, u2n _ _ _ _ _ g2], fun j g => by rw [u2_j _ _ _ _ _ _ g, u2n _ _ _ _ _ (by decide)]⟩ a3⟩
    rw [if_neg (show ¬ k = d by omega), F_210_39.eq_2, if_neg (show ¬ nn (10 ^ (d - 1 - k)) ≤ 0 from nn_ge 0 _ hq0 (by omega)), decide_eq_false hne, hdv, show zfirem (nn (n / 10 ^ (d - 1 - k))) 10 = nn (n / 10 ^ (d - 1 - k) % 10) from rem_l _ 10 (by omega) (by decide), show (48 : Int32) + nn (n / 10 ^ (d - 1 - k) % 10) = nn (48 + n / 10 ^ (d - 1 - k) % 10) from nn_addl 48 _, hnx]
    show zBd (m_209 (nn (48 + n / 10 ^ (d - 1 - k) % 10)) im lm) _ = _
    rw [s209 lm h1 (by omega), zBd_s]
    exact a1
theorem s210_23 (lm : zJ) {n d : Nat} (hn : dgt n d) (hd : d ≤ 7) (im : zI) : ∀ e i N, i + e = d - 1 → e < N → F_210_23 N (nn n) (nn (10 ^ i)) im lm = F_210_39 2000 (nn n) (nn (10 ^ (d - 1))) im lm := by
  obtain ⟨n1, n2, n3⟩ := id hn
  have hp := p10_le hd
  have hp7 : (10 : Nat) ^ 7 = 10000000 := rfl
  intro e
  induction e with
  | zero =>
    intro i N hi hN
    obtain ⟨N, rfl⟩ : ∃ m, N = m + 1 := ⟨N - 1, by omega⟩
    have : i = d - 1 := by omega
    subst this
    have hq := p10_le (show d - 1 ≤ 7 by omega)
    have e1 : 10 ^ d = 10 * 10 ^ (d - 1) := by rw [← p10_s, show d - 1 + 1 = d by omega]
    have hlt : nn n / 10 < nn (10 ^ (d - 1)) := by
      rw [show nn n / 10 = nn (n / 10) from div_l n 10 (by omega) (by decide), nn_lt _ _ (by omega) (by omega)]; omega
    rw [F_210_23.eq_2, if_pos hlt]
  | succ e ih =>
    intro i N hi hN
    obtain ⟨N, rfl⟩ : ∃ m, N = m + 1 := ⟨N - 1, by omega⟩
    have hq := p10_le (show i + 1 ≤ d - 1 by omega)
    have hq7 := p10_le (show d - 1 ≤ 7 by omega)
    have hi10 := p10_s i
    have h3 := n3.resolve_left (by omega)
    have hlt : ¬ nn n / 10 < nn (10 ^ i) := by
      rw [show nn n / 10 = nn (n / 10) from div_l n 10 (by omega) (by decide), nn_lt _ _ (by omega) (by omega)]; omega
    rw [F_210_23.eq_2, if_neg hlt, show nn (10 ^ i) * 10 = nn (10 ^ (i + 1)) from by rw [p10_s, Nat.mul_comm]; exact nn_mulr _ 10]
    exact ih (i + 1) N (by omega) (by omega)
theorem s210_u {im : zI} (lm : zJ) {l : List Int32} (h : TM im l) {n d : Nat} (hn : dgt n d) (hd : d ≤ 7) (hl : l.length + d ≤ 90) : ∃ im', F_210_23 2000 (nn n) 1 im lm = some (0, im', lm) ∧ TM im' (l ++ dgl n d) ∧ FW im im' := by
  have n1 := hn.1
  obtain ⟨im', a1, a2, a3⟩ := s210_39 lm (l := l) hn hd hl d 0 2000 im (by omega) (by omega) h.1 (fun j hj => by rw [List.getElem?_append_left hj]; exact h.2.2 j hj)
  refine ⟨im', ?_, a2, a3⟩
  have := s210_23 lm hn hd im (d - 1) 0 2000 (by omega) (by omega)
  refine Eq.trans this ?_
  rw [if_neg (show ¬ 0 = d by omega), Nat.sub_zero] at a1
  exact a1
theorem tm_210_p {im : zI} (lm : zJ) {l : List Int32} (h : TM im l) {n d : Nat} (hn : dgt n d) (hd : d ≤ 7) (hl : l.length + d ≤ 90) : ∃ im', m_210 (nn n) im lm = some (0, im', lm) ∧ TM im' (l ++ dgl n d) ∧ FW im im' := by
  have hp := p10_le hd
  have hp7 : (10 : Nat) ^ 7 = 10000000 := rfl
  have hnb := hn.2.1
  have h0 : (0 : Int32) ≤ nn n := Int32.not_lt.mp (nn_neg n (by omega))
  obtain ⟨im', a1, a2, a3⟩ := s210_u lm h hn hd hl
  refine ⟨im', ?_, a2, a3⟩
  unfold m_210 J_210_10
  rw [if_pos h0, if_pos h0]
  exact a1
theorem tm_210_n {im : zI} (lm : zJ) {l : List Int32} (h : TM im l) {n d : Nat} (hn : dgt n d) (hd : d ≤ 7) (hn0 : 0 < n) (hl : l.length + (d + 1) ≤ 90) : ∃ im', m_210 (ng n) im lm = some (0, im', lm) ∧ TM im' (l ++ ([45] ++ dgl n d)) ∧ FW im im' := by
  have hp := p10_le hd
  have hp7 : (10 : Nat) ^ 7 = 10000000 := rfl
  have hnb := hn.2.1
  have h0 : ¬ (0 : Int32) ≤ ng n := by
    rw [Int32.le_iff_toInt_le, ti_gn n (by omega)]; show ¬ (0 : Int) ≤ -(n : Int); omega
  obtain ⟨im1, b1, b2, b3⟩ := tm_209 lm h (by omega) 45
  obtain ⟨im', a1, a2, a3⟩ := s210_u lm b2 hn hd (by rw [List.length_append]; show l.length + 1 + d ≤ 90; omega)
  refine ⟨im', ?_, by rw [← List.append_assoc]; exact a2, FW_t b3 a3⟩
  unfold m_210 J_210_10
  rw [if_neg h0, if_neg h0, b1, zBd_s, ng_neg]
  exact a1
