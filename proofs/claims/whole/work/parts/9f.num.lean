/-! NUMBERS IN TEXT: appended *-/
def dgl (n d : Nat) : List Int32 := (List.range d).map (fun j => nn (48 + n / 10 ^ (d - 1 - j) % 10))
theorem dgl_l (n d : Nat) : (dgl n d).length = d := by unfold dgl; rw [List.length_map, List.length_range]
theorem dgl_g (n d j : Nat) (h : j < d) : (dgl n d)[j]? = some (nn (48 + n / 10 ^ (d - 1 - j) % 10)) := by
  unfold dgl
  rw [List.getElem?_map, List.getElem?_range h]; rfl
theorem tx_int_p {B : zeB} {im : zI} {lm : zJ} {l : List Int32} {cap : Nat} (h : TX B im l cap) (hT : TBL im) {n d : Nat} (hn : dgt n d) (hd : d ≤ 7) (hl : l.length + d ≤ 85) : ∃ B' im' lm' cap', zeRun 197 0 [some (.ref 168), some (.int (nn n))] [] (zk B im lm) = some (some (.ref 168), zk B' im' lm') ∧ TX B' im' (l ++ dgl n d) cap' ∧ FT B im lm B' im' lm' := by
  obtain ⟨B1, im1, lm1, cap1, a1, a2, a3, a4⟩ := tx_183 (lm := lm) h (l.length + d) hl
  obtain ⟨t1, t2, t3, t4, t5⟩ := id a2
  obtain ⟨u1, u2, u3, u4, u5, u6, u7, _⟩ := id t1
  have hb := tx_buf t1
  have hp := p10_le hd
  have hp7 : (10 : Nat) ^ 7 = 10000000 := rfl
  have hnb := hn.2.1
  have hT1 : TBL im1 := TBL_fr (fun a ha => (a4.1 a (by omega) (by omega) (by omega)).1) hT
  have h0 : (0 : Int32) ≤ nn n := Int32.not_lt.mp (nn_neg n (by omega))
  obtain ⟨im2, o0, o3, o4, b1, b2, b3⟩ := jb195_l (lm := lm1) u1 (by omega) hb.2 0 (some (.int (nn (l.length + d)))) d d n (l.length + d) im1 none none (Nat.le_refl _) hd hn (by omega) (by omega) hT1
  refine ⟨B1, zeU2 im2 168 3 (nn (l.length + d)), lm1, cap1, ?_, ⟨t1, ?_, ?_, ?_, ?_⟩, ?_, a4.2⟩
  · rw [b_197_0, b_196_0, h.2.2.1, jb194_p hn hd, zeBh_s, b_196_10, nn_add, a1, zeBh_n, b_196_17, tx_184 t2, zeBh_s, b_196_21, if_neg (show ¬ (1 : Int32) = 0 by decide), b_196_24, b_195_0, if_pos h0, b_195_11, if_pos (show (0 : Nat) = 0 from rfl), b_195_19, show -(nn n) = ng n from rfl, b1, bc_195_104, if_pos (show (0 : Int32) = 0 from rfl), bc_195_118, zeBh_s, b_196_33, zeBh_s, b_197_5]
  · rw [u2_j _ _ _ _ _ _ (by decide), b2 168 (Ne.symm hb.1)]; exact t2
  · rw [u2_s, List.length_append, dgl_l]
  · rw [List.length_append, dgl_l]; exact a3
  · intro j hj
    rw [List.length_append, dgl_l] at hj
    rw [u2n _ _ _ _ _ hb.1, b3 j]
    by_cases g : l.length ≤ j
    · rw [if_pos (by omega), List.getElem?_append_right g, dgl_g _ _ _ (by omega), show d - 1 - (j - l.length) = l.length + d - 1 - j by omega]
    · rw [if_neg (by omega), List.getElem?_append_left (by omega)]
      exact t5 j (by omega)
  · intro a g1 g2 g3
    rw [u2n _ _ _ _ _ g2, b2 a (by omega)]
    exact a4.1 a g1 g2 g3
theorem tx_int_n {B : zeB} {im : zI} {lm : zJ} {l : List Int32} {cap : Nat} (h : TX B im l cap) (hT : TBL im) {n d : Nat} (hn : dgt n d) (hd : d ≤ 7) (hn0 : 0 < n) (hl : l.length + (d + 1) ≤ 85) : ∃ B' im' lm' cap', zeRun 197 0 [some (.ref 168), some (.int (ng n))] [] (zk B im lm) = some (some (.ref 168), zk B' im' lm') ∧ TX B' im' (l ++ ([45] ++ dgl n d)) cap' ∧ FT B im lm B' im' lm' := by
  obtain ⟨B1, im1, lm1, cap1, a1, a2, a3, a4⟩ := tx_183 (lm := lm) h (l.length + (d + 1)) hl
  obtain ⟨t1, t2, t3, t4, t5⟩ := id a2
  obtain ⟨u1, u2, u3, u4, u5, u6, u7, _⟩ := id t1
  have hb := tx_buf t1
  have hp := p10_le hd
  have hp7 : (10 : Nat) ^ 7 = 10000000 := rfl
  have hnb := hn.2.1
  have hT1 : TBL im1 := TBL_fr (fun a ha => (a4.1 a (by omega) (by omega) (by omega)).1) hT
  have h0 : ¬ (0 : Int32) ≤ ng n := by
    rw [Int32.le_iff_toInt_le, ti_gn n (by omega)]; show ¬ (0 : Int) ≤ -(n : Int); omega
  obtain ⟨im2, o0, o3, o4, b1, b2, b3⟩ := jb195_l (lm := lm1) u1 (by omega) hb.2 1 (some (.int (nn (l.length + (d + 1))))) d d n (l.length + (d + 1)) im1 none none (Nat.le_refl _) hd hn (by omega) (by omega) hT1
  rw [show l.length + (d + 1) - d = l.length + 1 by omega] at b1 b3
  have hin : zeInb (nn l.length) (zkL B1 B1.buf) = true := by rw [u2]; exact inb_nn _ _ (by omega) (by omega)
  have e45 : vp_nar FieldType.byte 45 = 45 := by decide +kernel
  refine ⟨B1, zeU2 (zeU2 im2 B1.buf l.length 45) 168 3 (nn (l.length + (d + 1))), lm1, cap1, ?_, ⟨t1, ?_, ?_, ?_, ?_⟩, ?_, a4.2⟩
  · rw [b_197_0, b_196_0, h.2.2.1, jb194_n hn hd hn0, zeBh_s, b_196_10, nn_add, a1, zeBh_n, b_196_17, tx_184 t2, zeBh_s, b_196_21, if_neg (show ¬ (1 : Int32) = 0 by decide), b_196_24, b_195_0, if_neg h0, b_195_7, if_neg (show ¬ (1 : Nat) = 0 by decide), b1, bc_195_104, if_neg (show ¬ (1 : Int32) = 0 by decide), bc_195_109, nn_m1 (l.length + 1) (by omega) (by omega), show l.length + 1 - 1 = l.length from rfl, ze_st1 (t := zt_195) rfl rfl (o_st u1 hin _ _ _ _ _ _), bc_195_118, zeBh_s, b_196_33, zeBh_s, b_197_5, tn_nn _ (by omega), e45]
  · rw [u2_j _ _ _ _ _ _ (by decide), u2n _ _ _ _ _ (Ne.symm hb.1), b2 168 (Ne.symm hb.1)]; exact t2
  · rw [u2_s, List.length_append, List.length_append, dgl_l, Nat.add_comm d 1]; rfl
  · rw [List.length_append, List.length_append, dgl_l]; show l.length + (1 + d) ≤ cap1; omega
  · intro j hj
    rw [List.length_append, List.length_append, dgl_l] at hj
    have hj : j < l.length + (1 + d) := hj
    rw [u2n _ _ _ _ _ hb.1, u2_e, b3 j]
    by_cases g : l.length ≤ j
    · by_cases g2 : j = l.length
      · subst g2
        rw [if_pos ⟨rfl, rfl⟩, List.getElem?_append_right g, Nat.sub_self]; rfl
      · rw [if_neg (fun hh => g2 hh.2), if_pos (by omega), List.getElem?_append_right g, List.getElem?_append_right (show [(45 : Int32)].length ≤ j - l.length by show 1 ≤ _; omega), dgl_g _ _ _ (by show j - l.length - 1 < d; omega)]
        rw [show d - 1 - (j - l.length - [(45 : Int32)].length) = l.length + (d + 1) - 1 - j by show d - 1 - (j - l.length - 1) = _; omega]
    · rw [if_neg (by omega), if_neg (by omega), List.getElem?_append_left (by omega)]
      exact t5 j (by omega)
  · intro a g1 g2 g3
    rw [u2n _ _ _ _ _ g2, u2n _ _ _ _ _ (by omega), b2 a (by omega)]
    exact a4.1 a g1 g2 g3
