/-! THE TEXT: characters and strings put behind it *-/
def TX (B : zeB) (im : zI) (l : List Int32) (cap : Nat) : Prop := BB B cap ∧ im 168 1 = 0 ∧ im 168 3 = nn l.length ∧ l.length ≤ cap ∧ ∀ j, j < l.length → l[j]? = some (im B.buf j)
def FT (B : zeB) (im : zI) (lm : zJ) (B' : zeB) (im' : zI) (lm' : zJ) : Prop := (∀ a, a < 187 → a ≠ 168 → a ≠ 169 → im' a = im a ∧ lm' a = lm a) ∧ B'.len = B.len
theorem FT_r (B : zeB) (im : zI) (lm : zJ) : FT B im lm B im lm := ⟨fun _ _ _ _ => ⟨rfl, rfl⟩, rfl⟩
theorem FT_t {B B' B2 : zeB} {im im' im2 : zI} {lm lm' lm2 : zJ} (h : FT B im lm B' im' lm') (h2 : FT B' im' lm' B2 im2 lm2) : FT B im lm B2 im2 lm2 := ⟨fun a g1 g2 g3 => ⟨(h2.1 a g1 g2 g3).1.trans (h.1 a g1 g2 g3).1, (h2.1 a g1 g2 g3).2.trans (h.1 a g1 g2 g3).2⟩, h2.2.trans h.2⟩
theorem tx_buf {B : zeB} {cap : Nat} (h : BB B cap) : B.buf ≠ 168 ∧ (B.buf = 169 ∨ 187 ≤ B.buf) := ⟨by have := h.2.2.1; omega, h.2.2.1⟩
theorem tx_183 {B : zeB} {im : zI} {lm : zJ} {l : List Int32} {cap : Nat} (h : TX B im l cap) (m : Nat) (hm : m ≤ 85) : ∃ B' im' lm' cap', zeRun 183 0 [some (.ref 168), some (.int (nn m)), none] [] (zk B im lm) = some (none, zk B' im' lm') ∧ TX B' im' l cap' ∧ m ≤ cap' ∧ FT B im lm B' im' lm' := by
  obtain ⟨h1, h2, h3, h4, h5⟩ := h
  obtain ⟨B', im', lm', cap', a1, a2, a3, a4, a5, a6, a7⟩ := jb183 (lm := lm) h1 h2 m hm
  refine ⟨B', im', lm', cap', a1, ⟨a2, ?_, ?_, by omega, ?_⟩, a3, fun a g _ _ => a5 a g, a7⟩
  · rw [(a5 168 (by decide)).1]; exact h2
  · rw [(a5 168 (by decide)).1]; exact h3
  · intro j hj; rw [a6 j (by omega)]; exact h5 j hj
theorem tx_184 {B : zeB} {im : zI} {lm : zJ} (h : im 168 1 = 0) : zeRun 184 0 [some (.ref 168)] [] (zk B im lm) = some (some (.int 1), zk B im lm) := by
  rw [b_184_0, if_neg (show ¬ (1 : Nat) = 0 by decide), b_184_6, if_pos h, b_184_13]
/-- one character, ASCII -/
theorem tx_chr {B : zeB} {im : zI} {lm : zJ} {l : List Int32} {cap : Nat} (h : TX B im l cap) (k : Nat) (hk : k < 128) (hl : l.length + 1 ≤ 85) : ∃ B' im' lm' cap', zeRun 200 0 [some (.ref 168), some (.int (nn k))] [] (zk B im lm) = some (some (.ref 168), zk B' im' lm') ∧ TX B' im' (l ++ [nn k]) cap' ∧ FT B im lm B' im' lm' := by
  obtain ⟨B1, im1, lm1, cap1, a1, a2, a3, a4⟩ := tx_183 (lm := lm) h (l.length + 1) hl
  obtain ⟨t1, t2, t3, t4, t5⟩ := id a2
  obtain ⟨u1, u2, u3, u4, u5, u6, u7, _⟩ := id t1
  have hb := tx_buf t1
  have hkb : zfi2b (nn k) = nn k := by
    have : k = 0 ∨ 0 < k := by omega
    exact (by
      have e : ∀ k : Fin 128, zfi2b (Int32.ofNat k.1) = Int32.ofNat k.1 := by decide +kernel
      exact e ⟨k, hk⟩)
  have hkn : vp_nar FieldType.byte (nn k) = nn k := by
    have e : ∀ k : Fin 128, vp_nar FieldType.byte (Int32.ofNat k.1) = Int32.ofNat k.1 := by decide +kernel
    exact e ⟨k, hk⟩
  have h255 : ¬ (255 : Int32) < nn k := by rw [show (255 : Int32) = nn 255 from rfl, nn_lt _ _ (by omega) (by omega)]; omega
  have hin : zeInb (nn l.length) (zkL B1 B1.buf) = true := by rw [u2]; exact inb_nn _ _ (by omega) (by omega)
  refine ⟨B1, zeU2 (zeU2 im1 168 3 (nn (l.length + 1))) B1.buf l.length (nn k), lm1, cap1, ?_, ⟨t1, ?_, ?_, ?_, ?_⟩, ?_, a4.2⟩
  · rw [b_200_0, b_199_0, h.2.2.1, nn_s1, a1, zeBh_n, b_199_10, tx_184 t2, zeBh_s, b_199_14, if_neg (show ¬ (1 : Int32) = 0 by decide), b_199_17, b_198_0, if_neg h255, b_198_7, zeBh_s, b_199_21, if_neg (show ¬ (1 : Int32) = 0 by decide), b_199_24, t3, hkb, nn_s1, ze_st1 (t := zt_199) rfl rfl (o_st u1 hin _ _ _ _ _ _), bc_199_42, zeBh_s, b_200_5, tn_nn _ (by omega), hkn]
  · rw [u2n _ _ _ _ _ (Ne.symm hb.1), u2_j _ _ _ _ _ _ (by decide)]; exact t2
  · rw [u2n _ _ _ _ _ (Ne.symm hb.1), u2_s, List.length_append]; rfl
  · rw [List.length_append]; exact a3
  · intro j hj
    rw [List.length_append, show [nn k].length = 1 from rfl] at hj
    by_cases g : j = l.length
    · subst g; rw [u2_s, List.getElem?_append_right (Nat.le_refl _), Nat.sub_self]; rfl
    · rw [u2_j _ _ _ _ _ _ g, u2n _ _ _ _ _ hb.1, List.getElem?_append_left (by omega)]
      exact t5 j (by omega)
  · intro a g1 g2 g3
    rw [u2n _ _ _ _ _ (by omega), u2n _ _ _ _ _ (by omega)]
    exact a4.1 a g1 g2 g3
/-- the text constant 4 -/
theorem tx_s4 {B : zeB} {im : zI} {lm : zJ} {l : List Int32} {cap : Nat} (h : TX B im l cap) (hcd : im 4 1 = 0) (w : List Int32) (hw : w.length = 6) (hwj : ∀ j, j < 6 → w[j]? = some (im 5 j)) (hl : l.length + 6 ≤ 85) : ∃ B' im' lm' cap', zeRun 193 0 [some (.ref 168), some (.ref 4)] [] (zk B im lm) = some (some (.ref 168), zk B' im' lm') ∧ TX B' im' (l ++ w) cap' ∧ FT B im lm B' im' lm' := by
  obtain ⟨B1, im1, lm1, cap1, a1, a2, a3, a4⟩ := tx_183 (lm := lm) h (l.length + 6) hl
  obtain ⟨t1, t2, t3, t4, t5⟩ := id a2
  obtain ⟨u1, u2, u3, u4, u5, u6, u7, _⟩ := id t1
  have hb := tx_buf t1
  have hcd1 : im1 4 1 = 0 := by rw [(a4.1 4 (by decide) (by decide) (by decide)).1]; exact hcd
  have hnk : zeNok FieldType.byte (0 : Int32) = true := by decide +kernel
  have j187 : ∀ {B2 : zeB} {im2 : zI} {lm2 : zJ}, im2 4 1 = 0 → zeRun 187 0 [some (.ref 4)] [] (zk B2 im2 lm2) = some (some (.int 0), zk B2 im2 lm2) := by
    intro B2 im2 lm2 h2
    rw [bs4_187_0, if_neg (show ¬ (1 : Nat) = 0 by decide), bs4_187_6 (by rw [h2]; exact hnk), h2]
  have hcp : zeCpOk 0 (nn l.length) 6 (zkL B1 5) (zkL B1 B1.buf) = true := by
    rw [u2]; exact cp_ok 0 l.length 6 (zkL B1 5) cap1 (Nat.le_refl _) a3 (show 6 < 2147483648 by decide) (by omega)
  refine ⟨B1, zeU2 (zeCpy im1 5 0 B1.buf l.length 6) 168 3 (nn (l.length + 6)), lm1, cap1, ?_, ⟨t1, ?_, ?_, ?_, ?_⟩, ?_, a4.2⟩
  · rw [bs4_193_0, bs4_192_0, bs4_188_0, j187 hcd, zeBh_s, bs4_188_9, shr_0, zeBh_s, bs4_192_13, h.2.2.1, show nn l.length + 6 = nn (l.length + 6) from nn_addr l.length 6, a1, zeBh_n, bs4_192_24, bs4_191_0, bs4_189_0, if_neg (show ¬ (1 : Nat) = 0 by decide), bs4_189_6, j187 hcd1, zeBh_s, bs4_189_14, t2, if_pos rfl, bs4_189_21, zeBh_n, bs4_191_5, t2, t3, bs4_190_0, j187 hcd1, zeBh_s, bs4_190_4, if_pos rfl, bs4_190_8, shl_0, ze_st1 (t := zt_190) rfl rfl (o_cpO u1 rfl hcp _ _ _ _), b_190_25, zeBh_n, bs4_191_18, zeBh_n, bs4_192_33, zeBh_s, bs4_193_5, tn_0, tn_nn _ (by omega)]
    have e168 : zeCpy im1 5 0 B1.buf l.length 6 168 = im1 168 := by
      funext j
      show (if 168 = B1.buf then _ else im1 168 j) = _
      rw [if_neg (Ne.symm hb.1)]
    rw [show (((6 : Int32)).toNatClampNeg) = 6 from rfl, e168, t3, show nn l.length + 6 = nn (l.length + 6) from nn_addr l.length 6]
  · rw [u2_j _ _ _ _ _ _ (by decide)]
    show (if 168 = B1.buf then _ else im1 168 1) = 0
    rw [if_neg (Ne.symm hb.1)]; exact t2
  · rw [u2_s, List.length_append, hw]
  · rw [List.length_append, hw]; exact a3
  · intro j hj
    rw [List.length_append, hw] at hj
    rw [u2n _ _ _ _ _ hb.1]
    show _ = some (if B1.buf = B1.buf then (if l.length ≤ j ∧ j < l.length + 6 then im1 5 (0 + (j - l.length)) else im1 B1.buf j) else im1 B1.buf j)
    rw [if_pos rfl]
    by_cases g : l.length ≤ j
    · rw [if_pos ⟨g, hj⟩, List.getElem?_append_right g, hwj _ (by omega), (a4.1 5 (by decide) (by decide) (by decide)).1, Nat.zero_add]
    · rw [if_neg (fun hh => g hh.1), List.getElem?_append_left (by omega)]
      exact t5 j (by omega)
  · intro a g1 g2 g3
    refine ⟨?_, (a4.1 a g1 g2 g3).2⟩
    rw [u2n _ _ _ _ _ g2, ← (a4.1 a g1 g2 g3).1]
    funext j
    show (if a = B1.buf then _ else im1 a j) = _
    rw [if_neg (by omega)]
/-- the text constant 6 -/
theorem tx_s6 {B : zeB} {im : zI} {lm : zJ} {l : List Int32} {cap : Nat} (h : TX B im l cap) (hcd : im 6 1 = 0) (w : List Int32) (hw : w.length = 3) (hwj : ∀ j, j < 3 → w[j]? = some (im 7 j)) (hl : l.length + 3 ≤ 85) : ∃ B' im' lm' cap', zeRun 193 0 [some (.ref 168), some (.ref 6)] [] (zk B im lm) = some (some (.ref 168), zk B' im' lm') ∧ TX B' im' (l ++ w) cap' ∧ FT B im lm B' im' lm' := by
  obtain ⟨B1, im1, lm1, cap1, a1, a2, a3, a4⟩ := tx_183 (lm := lm) h (l.length + 3) hl
  obtain ⟨t1, t2, t3, t4, t5⟩ := id a2
  obtain ⟨u1, u2, u3, u4, u5, u6, u7, _⟩ := id t1
  have hb := tx_buf t1
  have hcd1 : im1 6 1 = 0 := by rw [(a4.1 6 (by decide) (by decide) (by decide)).1]; exact hcd
  have hnk : zeNok FieldType.byte (0 : Int32) = true := by decide +kernel
  have j187 : ∀ {B2 : zeB} {im2 : zI} {lm2 : zJ}, im2 6 1 = 0 → zeRun 187 0 [some (.ref 6)] [] (zk B2 im2 lm2) = some (some (.int 0), zk B2 im2 lm2) := by
    intro B2 im2 lm2 h2
    rw [bs6_187_0, if_neg (show ¬ (1 : Nat) = 0 by decide), bs6_187_6 (by rw [h2]; exact hnk), h2]
  have hcp : zeCpOk 0 (nn l.length) 3 (zkL B1 7) (zkL B1 B1.buf) = true := by
    rw [u2]; exact cp_ok 0 l.length 3 (zkL B1 7) cap1 (Nat.le_refl _) a3 (show 3 < 2147483648 by decide) (by omega)
  refine ⟨B1, zeU2 (zeCpy im1 7 0 B1.buf l.length 3) 168 3 (nn (l.length + 3)), lm1, cap1, ?_, ⟨t1, ?_, ?_, ?_, ?_⟩, ?_, a4.2⟩
  · rw [bs6_193_0, bs6_192_0, bs6_188_0, j187 hcd, zeBh_s, bs6_188_9, shr_0, zeBh_s, bs6_192_13, h.2.2.1, show nn l.length + 3 = nn (l.length + 3) from nn_addr l.length 3, a1, zeBh_n, bs6_192_24, bs6_191_0, bs6_189_0, if_neg (show ¬ (1 : Nat) = 0 by decide), bs6_189_6, j187 hcd1, zeBh_s, bs6_189_14, t2, if_pos rfl, bs6_189_21, zeBh_n, bs6_191_5, t2, t3, bs6_190_0, j187 hcd1, zeBh_s, bs6_190_4, if_pos rfl, bs6_190_8, shl_0, ze_st1 (t := zt_190) rfl rfl (o_cpO u1 rfl hcp _ _ _ _), b_190_25, zeBh_n, bs6_191_18, zeBh_n, bs6_192_33, zeBh_s, bs6_193_5, tn_0, tn_nn _ (by omega)]
    have e168 : zeCpy im1 7 0 B1.buf l.length 3 168 = im1 168 := by
      funext j
      show (if 168 = B1.buf then _ else im1 168 j) = _
      rw [if_neg (Ne.symm hb.1)]
    rw [show (((3 : Int32)).toNatClampNeg) = 3 from rfl, e168, t3, show nn l.length + 3 = nn (l.length + 3) from nn_addr l.length 3]
  · rw [u2_j _ _ _ _ _ _ (by decide)]
    show (if 168 = B1.buf then _ else im1 168 1) = 0
    rw [if_neg (Ne.symm hb.1)]; exact t2
  · rw [u2_s, List.length_append, hw]
  · rw [List.length_append, hw]; exact a3
  · intro j hj
    rw [List.length_append, hw] at hj
    rw [u2n _ _ _ _ _ hb.1]
    show _ = some (if B1.buf = B1.buf then (if l.length ≤ j ∧ j < l.length + 3 then im1 7 (0 + (j - l.length)) else im1 B1.buf j) else im1 B1.buf j)
    rw [if_pos rfl]
    by_cases g : l.length ≤ j
    · rw [if_pos ⟨g, hj⟩, List.getElem?_append_right g, hwj _ (by omega), (a4.1 7 (by decide) (by decide) (by decide)).1, Nat.zero_add]
    · rw [if_neg (fun hh => g hh.1), List.getElem?_append_left (by omega)]
      exact t5 j (by omega)
  · intro a g1 g2 g3
    refine ⟨?_, (a4.1 a g1 g2 g3).2⟩
    rw [u2n _ _ _ _ _ g2, ← (a4.1 a g1 g2 g3).1]
    funext j
    show (if a = B1.buf then _ else im1 a j) = _
    rw [if_neg (by omega)]
