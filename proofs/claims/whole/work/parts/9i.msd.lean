/-! messageAt: the class writes its text -/
theorem ch_k : ∀ c : Fin 128, zfi2c (Int32.ofNat c.1 &&& 255) = Int32.ofNat c.1 ∧ zeNok FieldType.char (Int32.ofNat c.1) = true ∧ vp_nar FieldType.char (Int32.ofNat c.1) = Int32.ofNat c.1 ∧ zfi2c (Int32.ofNat c.1) = Int32.ofNat c.1 := by decide +kernel
theorem ch_n {c : Nat} (hc : c < 128) : zfi2c (nn c &&& 255) = nn c ∧ zeNok FieldType.char (nn c) = true ∧ vp_nar FieldType.char (nn c) = nn c ∧ zfi2c (nn c) = nn c := ch_k ⟨c, hc⟩
def CM (im : zI) (l : List Int32) : Prop := im 168 0 = nn l.length ∧ l.length ≤ 90 ∧ ∀ j, j < l.length → l[j]? = some (im 169 j)
def FC (im im' : zI) : Prop := ∀ a, a ≠ 168 → a ≠ 169 → im' a = im a
theorem FC_r (im : zI) : FC im im := fun _ _ _ => rfl
theorem FC_t {im im' im2 : zI} (h : FC im im') (h2 : FC im' im2) : FC im im2 := fun a g1 g2 => (h2 a g1 g2).trans (h a g1 g2)
theorem OLD_fc {im im' : zI} (h : FC im im') (hO : OLD im) : OLD im' := OLD_fr (fun a ha => h a (by omega) (by omega)) hO
theorem NW_fc {im im' : zI} {lm : zJ} {R : Nat → Int32} {q : Int32} (hG : GD R) (h : FC im im') (hn : NW im lm R q) : NW im' lm R q := NW_of hG (fun a ha => ⟨h a (by omega) (by omega), rfl⟩) hn
theorem s183 {im : zI} (lm : zJ) {k : Nat} (h : im 168 0 = nn k) (hk : k < 128) {c : Nat} (hc : c < 128) : m_183 (nn c) im lm = some (0, zeU2 (zeU2 im 169 k (nn c)) 168 0 (nn (k + 1)), lm) := by
  have hg : ¬ (128 : Int32) ≤ nn k := nn_ge k 128 hk (by omega)
  unfold m_183
  rw [h, if_neg hg, if_neg hg, inb_nn _ _ hk (by omega), zCk_t, tn_nn _ (by omega), (ch_n hc).2.2.1, nn_s1]
theorem fc_183 (im : zI) (k : Nat) (x y : Int32) : FC im (zeU2 (zeU2 im 169 k x) 168 0 y) := fun a g1 g2 => by rw [u2n _ _ _ _ _ g1, u2n _ _ _ _ _ g2]
theorem cm_183 {im : zI} (lm : zJ) {l : List Int32} (h : CM im l) (hl : l.length + 1 ≤ 90) {c : Nat} (hc : c < 128) : ∃ im', m_183 (nn c) im lm = some (0, im', lm) ∧ CM im' (l ++ [nn c]) ∧ FC im im' := by
  obtain ⟨h1, h2, h3⟩ := h
  refine ⟨_, s183 lm h1 (by omega) hc, ⟨?_, ?_, ?_⟩, fc_183 _ _ _ _⟩
  · rw [u2_s, List.length_append]; rfl
  · rw [List.length_append]; exact hl
  · intro j hj
    rw [List.length_append, show [nn c].length = 1 from rfl] at hj
    rw [u2n _ _ _ _ _ (by decide)]
    by_cases g : j = l.length
    · subst g; rw [u2_s, List.getElem?_append_right (Nat.le_refl _), Nat.sub_self]; rfl
    · rw [u2_j _ _ _ _ _ _ g, List.getElem?_append_left (by omega)]
      exact h3 j (by omega)
/-! words -/
theorem cw_go {F : Nat → Int32 → zI → zJ → zR} {L : Nat} {w : Nat → Nat} (P : zI → Prop) (hP : ∀ im im', FC im im' → P im → P im') (hs : ∀ n k im lm, P im → k < L → F (n + 1) (nn k) im lm = zBd (m_183 (nn (w k)) im lm) fun _ im3 lm3 => F n (nn (k + 1)) im3 lm3) (he : ∀ n im lm, P im → F (n + 1) (nn L) im lm = some (0, im, lm)) (hw : ∀ k, k < L → w k < 128) (lm : zJ) : ∀ d k N im l, k + d = L → d < N → P im → CM im l → l.length + d ≤ 90 → ∃ im', F N (nn k) im lm = some (0, im', lm) ∧ CM im' (l ++ (List.range' k d).map (fun j => nn (w j))) ∧ FC im im' := by
  intro d
  induction d with
  | zero =>
    intro k N im l hk hN hp hC _
    obtain ⟨N, rfl⟩ : ∃ m, N = m + 1 := ⟨N - 1, by omega⟩
    have : k = L := by omega
    subst this
    exact ⟨im, he N im lm hp, by rw [List.range'_zero, List.map_nil, List.append_nil]; exact hC, FC_r im⟩
  | succ d ih =>
    intro k N im l hk hN hp hC hl
    obtain ⟨N, rfl⟩ : ∃ m, N = m + 1 := ⟨N - 1, by omega⟩
    obtain ⟨im1, a1, a2, a3⟩ := cm_183 lm hC (by omega) (hw k (by omega))
    obtain ⟨im2, b1, b2, b3⟩ := ih (k + 1) N im1 (l ++ [nn (w k)]) (by omega) (by omega) (hP _ _ a3 hp) a2 (by rw [List.length_append]; show l.length + 1 + d ≤ 90; omega)
    refine ⟨im2, ?_, ?_, FC_t a3 b3⟩
    · rw [hs N k im lm hp (by omega), a1, zBd_s]; exact b1
    · rw [List.range'_succ, List.map_cons]
      rw [List.append_assoc] at b2
      exact b2
theorem s204 (im : zI) (lm : zJ) {i L : Nat} (hi : i < L) (hL : L < 2147483648) : m_204 (nn i) (nn L) im lm = some (nn i, im, lm) := by
  unfold m_204
  rw [if_neg (nn_neg i (by omega)), if_pos (show nn i < nn L by rw [nn_lt _ _ (by omega) (by omega)]; exact hi)]
theorem s205 (im : zI) (lm : zJ) {i L : Nat} (hi : i < L) (hL : L < 2147483648) : m_205 (nn i) (nn L) im lm = some (0, im, lm) := by
  unfold m_205
  rw [s204 im lm hi hL, zBd_s]
theorem i1n0 : ((1 : Int32) = 0) = False := eq_false (by decide)
theorem byte_0 : zeNok FieldType.byte 0 = true := by decide +kernel
def w_4 : Nat → Nat := fun j => ([112, 104, 97, 115, 101, 32] : List Nat).getD j 0
theorem s188_4 {im : zI} (lm : zJ) (h0 : im 4 1 = 0) : m_188_4 im lm = some (nn 6, im, lm) := by
  unfold m_188_4 m_187_4
  simp only [h0, i1n0, if_false, byte_0, zCk_t, zBd_s]
  rfl
theorem s181_5 {im : zI} (lm : zJ) {i c : Nat} (hi : i < 6) (hc : c < 128) (h : im 5 i = nn c) : m_181_5 (nn i) im lm = some (nn c, im, lm) := by
  obtain ⟨k1, k2, k3⟩ := ch_n hc
  unfold m_181_5
  rw [show m_205 (nn i) 6 im lm = some (0, im, lm) from s205 im lm (L := 6) hi (by decide), zBd_s, inb_nn _ _ hi (by omega), zCk_t, tn_nn _ (by omega), h, k1, k2, zCk_t]
theorem s182_4 {im : zI} (lm : zJ) (h0 : im 4 1 = 0) {i c : Nat} (hi : i < 6) (hc : c < 128) (h : im 5 i = nn c) : m_182_4 (nn i) im lm = some (nn c, im, lm) := by
  unfold m_182_4
  simp only [h0, i1n0, if_false, if_true]
  rw [s181_5 lm hi hc h, zBd_s, (ch_n hc).2.1, zCk_t]
theorem F184_4 {im : zI} (lm : zJ) (h0 : im 4 1 = 0) (n : Nat) : F_184_4_2 (n + 1) (nn 6) im lm = some (0, im, lm) := by
  rw [F_184_4_2.eq_2, s188_4 lm h0, zBd_s, if_pos (Int32.le_refl _)]
theorem F184_4_s {im : zI} (lm : zJ) (h0 : im 4 1 = 0) (n k : Nat) (hk : k < 6) {c : Nat} (hc : c < 128) (h : im 5 k = nn c) : F_184_4_2 (n + 1) (nn k) im lm = zBd (m_183 (nn c) im lm) fun _ im3 lm3 => F_184_4_2 n (nn (k + 1)) im3 lm3 := by
  rw [F_184_4_2.eq_2, s188_4 lm h0, zBd_s, if_neg (nn_ge k 6 hk (by omega)), s182_4 lm h0 hk hc h, zBd_s, nn_s1]
theorem w_4_c : ∀ k, k < 6 → w_4 k < 128 := by decide
theorem cw_4 {im : zI} (lm : zJ) {l : List Int32} (hC : CM im l) (hO : OLD im) (hl : l.length + 6 ≤ 90) : ∃ im', m_184_4 im lm = some (0, im', lm) ∧ CM im' (l ++ [112, 104, 97, 115, 101, 32]) ∧ FC im im' := by
  have hw : ∀ im, OLD im → ∀ k, k < 6 → im 5 k = nn (w_4 k) := by
    intro im hO k hk
    have h := hO.2.2.2.1 k hk
    have : k = 0 ∨ k = 1 ∨ k = 2 ∨ k = 3 ∨ k = 4 ∨ k = 5 := by omega
    rcases this with g | g | g | g | g | g <;> subst g <;> exact (Option.some.inj h).symm
  obtain ⟨im', a1, a2, a3⟩ := cw_go (F := F_184_4_2) (L := 6) (w := w_4) OLD (fun im im' h => OLD_fc h) (fun n k im lm h hk => F184_4_s lm h.1 n k hk (w_4_c k hk) (hw im h k hk)) (fun n im lm h => F184_4 lm h.1 n) w_4_c lm 6 0 2000 im l (by omega) (by omega) hO hC hl
  exact ⟨im', a1, a2, a3⟩
def w_6 : Nat → Nat := fun j => ([59, 32, 112] : List Nat).getD j 0
theorem s188_6 {im : zI} (lm : zJ) (h0 : im 6 1 = 0) : m_188_6 im lm = some (nn 3, im, lm) := by
  unfold m_188_6 m_187_6
  simp only [h0, i1n0, if_false, byte_0, zCk_t, zBd_s]
  rfl
theorem s181_7 {im : zI} (lm : zJ) {i c : Nat} (hi : i < 3) (hc : c < 128) (h : im 7 i = nn c) : m_181_7 (nn i) im lm = some (nn c, im, lm) := by
  obtain ⟨k1, k2, k3⟩ := ch_n hc
  unfold m_181_7
  rw [show m_205 (nn i) 3 im lm = some (0, im, lm) from s205 im lm (L := 3) hi (by decide), zBd_s, inb_nn _ _ hi (by omega), zCk_t, tn_nn _ (by omega), h, k1, k2, zCk_t]
theorem s182_6 {im : zI} (lm : zJ) (h0 : im 6 1 = 0) {i c : Nat} (hi : i < 3) (hc : c < 128) (h : im 7 i = nn c) : m_182_6 (nn i) im lm = some (nn c, im, lm) := by
  unfold m_182_6
  simp only [h0, i1n0, if_false, if_true]
  rw [s181_7 lm hi hc h, zBd_s, (ch_n hc).2.1, zCk_t]
theorem F184_6 {im : zI} (lm : zJ) (h0 : im 6 1 = 0) (n : Nat) : F_184_6_2 (n + 1) (nn 3) im lm = some (0, im, lm) := by
  rw [F_184_6_2.eq_2, s188_6 lm h0, zBd_s, if_pos (Int32.le_refl _)]
theorem F184_6_s {im : zI} (lm : zJ) (h0 : im 6 1 = 0) (n k : Nat) (hk : k < 3) {c : Nat} (hc : c < 128) (h : im 7 k = nn c) : F_184_6_2 (n + 1) (nn k) im lm = zBd (m_183 (nn c) im lm) fun _ im3 lm3 => F_184_6_2 n (nn (k + 1)) im3 lm3 := by
  rw [F_184_6_2.eq_2, s188_6 lm h0, zBd_s, if_neg (nn_ge k 3 hk (by omega)), s182_6 lm h0 hk hc h, zBd_s, nn_s1]
theorem w_6_c : ∀ k, k < 3 → w_6 k < 128 := by decide
theorem cw_6 {im : zI} (lm : zJ) {l : List Int32} (hC : CM im l) (hO : OLD im) (hl : l.length + 3 ≤ 90) : ∃ im', m_184_6 im lm = some (0, im', lm) ∧ CM im' (l ++ [59, 32, 112]) ∧ FC im im' := by
  have hw : ∀ im, OLD im → ∀ k, k < 3 → im 7 k = nn (w_6 k) := by
    intro im hO k hk
    have h := hO.2.2.2.2.1 k hk
    have : k = 0 ∨ k = 1 ∨ k = 2 := by omega
    rcases this with g | g | g <;> subst g <;> exact (Option.some.inj h).symm
  obtain ⟨im', a1, a2, a3⟩ := cw_go (F := F_184_6_2) (L := 3) (w := w_6) OLD (fun im im' h => OLD_fc h) (fun n k im lm h hk => F184_6_s lm h.2.1 n k hk (w_6_c k hk) (hw im h k hk)) (fun n im lm h => F184_6 lm h.2.1 n) w_6_c lm 3 0 2000 im l (by omega) (by omega) hO hC hl
  exact ⟨im', a1, a2, a3⟩
def w_2 : Nat → Nat := fun j => ([32] : List Nat).getD j 0
theorem s188_2 {im : zI} (lm : zJ) (h0 : im 2 1 = 0) : m_188_2 im lm = some (nn 1, im, lm) := by
  unfold m_188_2 m_187_2
  simp only [h0, i1n0, if_false, byte_0, zCk_t, zBd_s]
  rfl
theorem s181_3 {im : zI} (lm : zJ) {i c : Nat} (hi : i < 1) (hc : c < 128) (h : im 3 i = nn c) : m_181_3 (nn i) im lm = some (nn c, im, lm) := by
  obtain ⟨k1, k2, k3⟩ := ch_n hc
  unfold m_181_3
  rw [show m_205 (nn i) 1 im lm = some (0, im, lm) from s205 im lm (L := 1) hi (by decide), zBd_s, inb_nn _ _ hi (by omega), zCk_t, tn_nn _ (by omega), h, k1, k2, zCk_t]
theorem s182_2 {im : zI} (lm : zJ) (h0 : im 2 1 = 0) {i c : Nat} (hi : i < 1) (hc : c < 128) (h : im 3 i = nn c) : m_182_2 (nn i) im lm = some (nn c, im, lm) := by
  unfold m_182_2
  simp only [h0, i1n0, if_false, if_true]
  rw [s181_3 lm hi hc h, zBd_s, (ch_n hc).2.1, zCk_t]
theorem F184_2 {im : zI} (lm : zJ) (h0 : im 2 1 = 0) (n : Nat) : F_184_2_2 (n + 1) (nn 1) im lm = some (0, im, lm) := by
  rw [F_184_2_2.eq_2, s188_2 lm h0, zBd_s, if_pos (Int32.le_refl _)]
theorem F184_2_s {im : zI} (lm : zJ) (h0 : im 2 1 = 0) (n k : Nat) (hk : k < 1) {c : Nat} (hc : c < 128) (h : im 3 k = nn c) : F_184_2_2 (n + 1) (nn k) im lm = zBd (m_183 (nn c) im lm) fun _ im3 lm3 => F_184_2_2 n (nn (k + 1)) im3 lm3 := by
  rw [F_184_2_2.eq_2, s188_2 lm h0, zBd_s, if_neg (nn_ge k 1 hk (by omega)), s182_2 lm h0 hk hc h, zBd_s, nn_s1]
theorem w_2_c : ∀ k, k < 1 → w_2 k < 128 := by decide
theorem cw_2 {im : zI} (lm : zJ) {l : List Int32} (hC : CM im l) (hO : OLD im) (hl : l.length + 1 ≤ 90) : ∃ im', m_184_2 im lm = some (0, im', lm) ∧ CM im' (l ++ [32]) ∧ FC im im' := by
  have hw : ∀ im, OLD im → ∀ k, k < 1 → im 3 k = nn (w_2 k) := by
    intro im hO k hk
    have h := hO.2.2.2.2.2 k hk
    have : k = 0 := by omega
    subst this
    exact (Option.some.inj h).symm
  obtain ⟨im', a1, a2, a3⟩ := cw_go (F := F_184_2_2) (L := 1) (w := w_2) OLD (fun im im' h => OLD_fc h) (fun n k im lm h hk => F184_2_s lm h.2.2.1 n k hk (w_2_c k hk) (hw im h k hk)) (fun n im lm h => F184_2 lm h.2.2.1 n) w_2_c lm 1 0 2000 im l (by omega) (by omega) hO hC hl
  exact ⟨im', a1, a2, a3⟩
/-! numbers -/
theorem s186_d (lm : zJ) {l : List Int32} {n d : Nat} (hn : dgt n d) (hd : d ≤ 7) (hl : l.length + d ≤ 90) : ∀ e k N (im : zI), k + e = d → e < N → im 168 0 = nn (l.length + k) → (∀ j, j < l.length + k → (l ++ dgl n d)[j]? = some (im 169 j)) → ∃ im', F_185_18 N (nn n) (if k = d then 0 else nn (10 ^ (d - 1 - k))) im lm = some (0, im', lm) ∧ CM im' (l ++ dgl n d) ∧ FC im im' := by
  have hp := p10_le hd
  have hp7 : (10 : Nat) ^ 7 = 10000000 := rfl
  have hnb := hn.2.1
  intro e
  induction e with
  | zero =>
    intro k N im hk hN h1 h2
    obtain ⟨N, rfl⟩ : ∃ m, N = m + 1 := ⟨N - 1, by omega⟩
    have : k = d := by omega
    subst this
    refine ⟨im, ?_, ⟨?_, ?_, ?_⟩, FC_r im⟩
    · rw [if_pos rfl, F_185_18.eq_2, if_pos (Int32.le_refl _)]
    · rw [List.length_append, dgl_l]; exact h1
    · rw [List.length_append, dgl_l]; exact hl
    · intro j hj; rw [List.length_append, dgl_l] at hj; exact h2 j hj
  | succ e ih =>
    intro k N im hk hN h1 h2
    obtain ⟨N, rfl⟩ : ∃ m, N = m + 1 := ⟨N - 1, by omega⟩
    have hq := p10_le (show d - 1 - k ≤ 7 by omega)
    have hq0 : 0 < 10 ^ (d - 1 - k) := Nat.pow_pos (by decide)
    have hne : ¬ nn (10 ^ (d - 1 - k)) = 0 := by rw [show (0 : Int32) = nn 0 from rfl, nn_inj _ _ (by omega) (by omega)]; omega
    have hdv : nn n / nn (10 ^ (d - 1 - k)) = nn (n / 10 ^ (d - 1 - k)) := tdiv_nn n _ (by omega) (by omega)
    have hdb : n / 10 ^ (d - 1 - k) ≤ n := Nat.div_le_self _ _
    have hmd : n / 10 ^ (d - 1 - k) % 10 < 10 := Nat.mod_lt _ (by decide)
    have hnx : nn (10 ^ (d - 1 - k)) / 10 = if k + 1 = d then 0 else nn (10 ^ (d - 1 - (k + 1))) := by
      rw [show nn (10 ^ (d - 1 - k)) / 10 = nn (10 ^ (d - 1 - k) / 10) from div_l _ 10 (by omega) (by decide)]
      by_cases g : k + 1 = d
      · rw [if_pos g, show d - 1 - k = 0 by omega]; rfl
      · rw [if_neg g, show d - 1 - k = (d - 1 - (k + 1)) + 1 by omega, p10_s, Nat.mul_div_cancel_left _ (by decide)]
    obtain ⟨im', a1, a2, a3⟩ := ih (k + 1) N (zeU2 (zeU2 im 169 (l.length + k) (nn (48 + n / 10 ^ (d - 1 - k) % 10))) 168 0 (nn (l.length + k + 1))) (by omega) (by omega) (u2_s _ _ _ _) (by
      intro j hj
      rw [u2n _ _ _ _ _ (by decide)]
      by_cases g : j = l.length + k
      · subst g; rw [u2_s, List.getElem?_append_right (by omega), dgl_g _ _ _ (by omega), show l.length + k - l.length = k by omega]
      · rw [u2_j _ _ _ _ _ _ g]; exact h2 j (by omega))
    refine ⟨im', ?_, a2, FC_t (fc_183 _ _ _ _) a3⟩
    have hJ : ∀ x y : zR, (if nn (10 ^ (d - 1 - k)) ≤ nn n then x else if nn (10 ^ (d - 1 - k)) = 1 then x else y) = x := by
      intro x y
      by_cases g : nn (10 ^ (d - 1 - k)) ≤ nn n
      · rw [if_pos g]
      · rw [if_neg g]
        rw [nn_le _ _ (by omega) (by omega)] at g
        rcases hn.2.2 with h | h
        · rw [show d - 1 - k = 0 by omega]; exact if_pos rfl
        · have := p10_le (show d - 1 - k ≤ d - 1 by omega); omega
    rw [if_neg (show ¬ k = d by omega), F_185_18.eq_2, if_neg (show ¬ nn (10 ^ (d - 1 - k)) ≤ 0 from nn_ge 0 _ hq0 (by omega)), hJ]
    unfold J_185_32
    rw [decide_eq_false hne, hdv, show zfirem (nn (n / 10 ^ (d - 1 - k))) 10 = nn (n / 10 ^ (d - 1 - k) % 10) from rem_l _ 10 (by omega) (by decide), show (48 : Int32) + nn (n / 10 ^ (d - 1 - k) % 10) = nn (48 + n / 10 ^ (d - 1 - k) % 10) from nn_addl 48 _, hnx, (ch_n (show 48 + n / 10 ^ (d - 1 - k) % 10 < 128 by omega)).2.2.2]
    show zBd (m_183 (nn (48 + n / 10 ^ (d - 1 - k) % 10)) im lm) _ = _
    rw [s183 lm h1 (by omega) (by omega), zBd_s]
    exact a1
theorem s186_k (lm : zJ) {n d : Nat} (hn : dgt n d) (im : zI) : ∀ e N, d + e ≤ 8 → F_185_18 (N + e) (nn n) (nn (10 ^ (d - 1 + e))) im lm = F_185_18 N (nn n) (nn (10 ^ (d - 1))) im lm := by
  obtain ⟨n1, n2, n3⟩ := hn
  intro e
  induction e with
  | zero => intro N _; rfl
  | succ e ih =>
    intro N he
    have hp7 : (10 : Nat) ^ 7 = 10000000 := rfl
    have h7 := p10_le (show d - 1 + (e + 1) ≤ 7 by omega)
    have hd := p10_le (show d ≤ d - 1 + (e + 1) by omega)
    have hs : 10 ^ (d - 1 + (e + 1)) = 10 * 10 ^ (d - 1 + e) := p10_s _
    have hq0 : 0 < 10 ^ (d - 1 + e) := Nat.pow_pos (by decide)
    rw [show N + (e + 1) = (N + e) + 1 from rfl, F_185_18.eq_2, if_neg (show ¬ nn (10 ^ (d - 1 + (e + 1))) ≤ 0 from nn_ge 0 _ (by omega) (by omega)), if_neg (show ¬ nn (10 ^ (d - 1 + (e + 1))) ≤ nn n from nn_ge n _ (by omega) (by omega)), if_neg (show ¬ nn (10 ^ (d - 1 + (e + 1))) = 1 by rw [show (1 : Int32) = nn 1 from rfl, nn_inj _ _ (by omega) (by omega)]; omega), show nn (10 ^ (d - 1 + (e + 1))) / 10 = nn (10 ^ (d - 1 + (e + 1)) / 10) from div_l _ 10 (by omega) (by decide), hs, Nat.mul_div_cancel_left _ (by decide)]
    exact ih N (by omega)
theorem s186_u {im : zI} (lm : zJ) {l : List Int32} (h : CM im l) {n d : Nat} (hn : dgt n d) (hd : d ≤ 7) (hl : l.length + d ≤ 90) : ∃ im', F_185_18 2000 (nn n) 10000000 im lm = some (0, im', lm) ∧ CM im' (l ++ dgl n d) ∧ FC im im' := by
  have n1 := hn.1
  obtain ⟨im', a1, a2, a3⟩ := s186_d lm (l := l) hn hd hl d 0 (2000 - (8 - d)) im (by omega) (by omega) h.1 (fun j hj => by rw [List.getElem?_append_left hj]; exact h.2.2 j hj)
  refine ⟨im', ?_, a2, a3⟩
  have := s186_k lm hn im (8 - d) (2000 - (8 - d)) (by omega)
  rw [show 2000 - (8 - d) + (8 - d) = 2000 by omega, show d - 1 + (8 - d) = 7 by omega] at this
  refine Eq.trans this ?_
  rw [if_neg (show ¬ 0 = d by omega), Nat.sub_zero] at a1
  exact a1
theorem cm_num {im : zI} (lm : zJ) {l : List Int32} (h : CM im l) {x : Int32} (hx : small x) (hl : l.length + (numL x).length ≤ 90) : ∃ im', m_185 x im lm = some (0, im', lm) ∧ CM im' (l ++ numL x) ∧ FC im im' := by
  rcases small_c hx with ⟨n, h1, h2, h3⟩ | ⟨n, h0, h1, h2, h3⟩
  · rw [h3, dgl_l] at hl
    rw [h3, h2]
    have hp : (0 : Int32) ≤ nn n := Int32.not_lt.mp (nn_neg n (by omega))
    obtain ⟨im', a1, a2, a3⟩ := s186_u lm h (dcn_ok n h1).2 (dcn_ok n h1).1 hl
    refine ⟨im', ?_, a2, a3⟩
    unfold m_185 J_185_10
    rw [if_pos hp, if_pos hp]
    exact a1
  · rw [h3, List.length_append, dgl_l] at hl
    have hl : l.length + (1 + dcn n) ≤ 90 := hl
    rw [h3, h2]
    have hp : ¬ (0 : Int32) ≤ ng n := by
      rw [Int32.le_iff_toInt_le, ti_gn n (by omega)]; show ¬ (0 : Int) ≤ -(n : Int); omega
    obtain ⟨im1, b1, b2, b3⟩ := cm_183 lm h (by omega) (c := 45) (by decide)
    obtain ⟨im', a1, a2, a3⟩ := s186_u lm b2 (dcn_ok n h1).2 (dcn_ok n h1).1 (by rw [List.length_append]; show l.length + 1 + _ ≤ 90; omega)
    refine ⟨im', ?_, by rw [← List.append_assoc]; exact a2, FC_t b3 a3⟩
    unfold m_185 J_185_10
    rw [if_neg hp, if_neg hp, show m_183 45 im lm = _ from b1, zBd_s, show (0 : Int32) - ng n = nn n from by rw [Int32.zero_sub, ng_neg]]
    exact a1
/-! the text -/
theorem msgL {R : Nat → Int32} {q : Int32} (hG : GD R) (lm : zJ) : ∀ d k N im, k + d = rN R → d < N → CM im (txt R k) → NW im lm R q → OLD im → ∃ im', F_201_34 N (nn k) im lm = some (0, im', lm) ∧ CM im' (txt R (rN R)) ∧ FC im im' := by
  have h6 := hG.1.2
  intro d
  induction d with
  | zero =>
    intro k N im hk hNN hT hN hO
    obtain ⟨N, rfl⟩ : ∃ m, N = m + 1 := ⟨N - 1, by omega⟩
    have : k = rN R := by omega
    subst this
    refine ⟨im, ?_, hT, FC_r im⟩
    rw [F_201_34.eq_2, hN.1.1.2.1, hG.1.1, if_pos (Int32.le_refl _)]
  | succ d ih =>
    intro k N im hk hNN hT hN hO
    obtain ⟨N, rfl⟩ : ∃ m, N = m + 1 := ⟨N - 1, by omega⟩
    have hkN : k < rN R := by omega
    have hlen := txt_len hG k (by omega)
    obtain ⟨p, p1, p2, p3⟩ := pat_e hkN (-10000005)
    have hsc := GD_small hG p
    have hl8 := numL_len hsc
    obtain ⟨im1, a1, a2, a3⟩ := cw_6 lm hT hO (by omega)
    have l1 : (txt R k ++ [59, 32, 112]).length = (txt R k).length + 3 := by rw [List.length_append]; rfl
    have l2 : (numL (nn p)).length = 1 := numL_1 (by omega)
    obtain ⟨im2, b1, b2, b3⟩ := cm_num lm a2 (small_nn (n := p) (by omega)) (by rw [l1, l2]; omega)
    have hO2 := OLD_fc b3 (OLD_fc a3 hO)
    have l3 : (txt R k ++ [59, 32, 112] ++ numL (nn p)).length = (txt R k).length + 3 + 1 := by rw [List.length_append, l1, l2]
    obtain ⟨im3, d1, d2, d3⟩ := cw_2 lm b2 hO2 (by rw [l3]; omega)
    have hN3 := NW_fc hG d3 (NW_fc hG b3 (NW_fc hG a3 hN))
    have l4 : (txt R k ++ [59, 32, 112] ++ numL (nn p) ++ [32]).length = (txt R k).length + 3 + 1 + 1 := by rw [List.length_append, l3]; rfl
    have h33 : im3 33 p = sc R p := (hN3.2.1.2.1 p (by omega)).1
    obtain ⟨im4, e1, e2, e3⟩ := cm_num lm d2 hsc (by rw [l4]; omega)
    have htx : txt R k ++ [59, 32, 112] ++ numL (nn p) ++ [32] ++ numL (sc R p) = txt R (k + 1) := by
      show _ = txt R k ++ [59, 32, 112] ++ numL (pat R k (-1)) ++ [32] ++ numL (sc R (pat R k (-1)).toNatClampNeg)
      rw [p3, tn_nn p (by omega)]
    rw [htx] at e2
    obtain ⟨im5, f1, f2, f3⟩ := ih (k + 1) N im4 (by omega) (by omega) e2 (NW_fc hG e3 hN3) (OLD_fc e3 (OLD_fc d3 hO2))
    refine ⟨im5, ?_, f2, FC_t a3 (FC_t b3 (FC_t d3 (FC_t e3 f3)))⟩
    rw [F_201_34.eq_2, hN.1.1.2.1, hG.1.1, if_neg (nn_ge k (rN R) hkN (by omega)), s162w hG hN k (by omega), p2, zBd_s, a1, zBd_s, b1, zBd_s, d1, zBd_s, s137 im3 lm (by omega), zBd_s, h33, e1, zBd_s, nn_s1]
    exact f1
theorem msgC {R : Nat → Int32} {q : Int32} (hG : GD R) {im : zI} {lm : zJ} (hN : NW im lm R q) (hO : OLD im) : ∃ im', m_201 im lm = some (0, im', lm) ∧ CM im' (txt R (rN R)) ∧ FC im im' := by
  have h6 := hG.1.2
  have f0 : FC im (zeU2 im 168 0 0) := fun a g1 _ => u2n _ _ _ _ _ g1
  have hC0 : CM (zeU2 im 168 0 0) [] := ⟨u2_s _ _ _ _, Nat.zero_le _, fun j hj => absurd hj (Nat.not_lt_zero j)⟩
  obtain ⟨im1, a1, a2, a3⟩ := cw_4 lm hC0 (OLD_fc f0 hO) (by decide)
  have hN1 := NW_fc hG a3 (NW_fc hG f0 hN)
  obtain ⟨n, n1, n2⟩ := GD_r0 hG
  have h17 : im1 17 0 = nn n := hN1.1.1.1.trans n2
  obtain ⟨im2, b1, b2, b3⟩ := cm_num lm a2 (small_nn (n := n) (by omega)) (by rw [numL_1 n1]; decide)
  have htx : [] ++ [112, 104, 97, 115, 101, 32] ++ numL (nn n) = txt R 0 := by rw [← n2]; rfl
  rw [htx] at b2
  obtain ⟨im3, d1, d2, d3⟩ := msgL hG lm (rN R) 0 2000 im2 (by omega) (by omega) b2 (NW_fc hG b3 hN1) (OLD_fc b3 (OLD_fc a3 (OLD_fc f0 hO)))
  refine ⟨im3, ?_, d2, FC_t f0 (FC_t a3 (FC_t b3 d3))⟩
  unfold m_201
  rw [a1, zBd_s, h17, b1, zBd_s]
  exact d1
/-- messageAt, the class -/
theorem msgA {R : Nat → Int32} {q : Int32} (hG : GD R) {im : zI} {lm : zJ} (hN : NW im lm R q) (hO : OLD im) (x : Int32) (hx : ¬ x < 0) : ∃ im', m_208 x im lm = some (((txt R (rN R))[x.toNatClampNeg]?).getD (-10000005), im', lm) ∧ FC im im' := by
  obtain ⟨im1, a1, a2, a3⟩ := msgC hG hN hO
  obtain ⟨x1, x2⟩ := nn_of x (Int32.not_lt.mp hx)
  generalize x.toNatClampNeg = i at x1 x2
  subst x1
  have hlen := txt_len hG (rN R) (Nat.le_refl _)
  have h6 := hG.1.2
  have hle : (nn (txt R (rN R)).length ≤ nn i) = ((txt R (rN R)).length ≤ i) := nn_le _ _ (by omega) x2
  refine ⟨im1, ?_, a3⟩
  unfold m_208
  rw [if_pos (Int32.not_lt.mp hx), a1, zBd_s, a2.1]
  simp only [hle]
  by_cases g : (txt R (rN R)).length ≤ i
  · simp only [g, if_true, zCk_t]
    rw [List.getElem?_eq_none g]; rfl
  · simp only [g, if_false]
    rw [inb_nn _ _ (by omega) (by omega), zCk_t, tn_nn i x2, a2.2.2 i (by omega)]; rfl
theorem msgA_n (x : Int32) (hx : x < 0) (im : zI) (lm : zJ) : m_208 x im lm = some (-10000002, im, lm) := by
  unfold m_208; rw [if_neg (Int32.not_le.mpr hx)]
