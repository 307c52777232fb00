/-! messageAt: the class, its text as a whole *-/
theorem msgL {R : Nat → Int32} {q : Int32} (hG : GD R) : ∀ d k B im lm o2 cap, k + d = rN R → TX B im (txt R k) cap → NW im lm R q → OLD im → ∃ B' im' lm' cap', zeRun 201 31 [some (.ref 16), some (.int (nn k)), o2] [] (zk B im lm) = some (none, zk B' im' lm') ∧ TX B' im' (txt R (rN R)) cap' ∧ FT B im lm B' im' lm' := by
  have h6 := hG.1.2
  intro d
  induction d with
  | zero =>
    intro k B im lm o2 cap hk hT hN hO
    have : k = rN R := by omega
    subst this
    refine ⟨B, im, lm, cap, ?_, hT, FT_r B im lm⟩
    rw [b_201_31, hN.1.1.2.1, hG.1.1, if_pos (Int32.le_refl _), b_201_94]
  | succ d ih =>
    intro k B im lm o2 cap hk hT hN hO
    have hkN : k < rN R := by omega
    have hlen := txt_len hG k (by omega)
    obtain ⟨p, p1, p2, p3⟩ := pat_e hkN (-10000005)
    have hsc := GD_small hG p
    have hl8 := numL_len hsc
    have r162 : zeRun 162 0 [some (.ref 16), some (.int (nn k)), none] [] (zk B im lm) = some (some (.int (nn p)), zk B im lm) := by
      have := m_162_ok (B := B) (nn k) im lm (nn p) im lm (by rw [s162w hG hN k (by omega), p2])
      exact this
    have r38 : zeRun 38 0 [some (.ref 16), some (.int (nn p))] [] (zk B im lm) = some (some (.int 1), zk B im lm) := by
      have e : m_38 (nn p) im lm = some (1, im, lm) := by
        unfold m_38
        rw [hN.1.1.2.1, hG.1.1, if_neg (nn_neg p (by omega)), if_neg (nn_ge p (rN R) p1 (by omega))]
      exact m_38_ok (B := B) (nn p) im lm 1 im lm e
    obtain ⟨B1, im1, lm1, c1, a1, a2, a3⟩ := tx_s6 (lm := lm) hT hO.2.2.1 [59, 32, 112] rfl hO.2.2.2.2 (by omega)
    have hO1 := OLD_ft a3 hO
    have l1 : (txt R k ++ [59, 32, 112]).length = (txt R k).length + 3 := by rw [List.length_append]; rfl
    have l2 : (numL (nn p)).length = 1 := numL_1 (by omega)
    obtain ⟨B2, im2, lm2, c2, b1, b2, b3⟩ := tx_num (lm := lm1) a2 hO1.1 (small_nn (n := p) (by omega)) (by rw [l1, l2]; omega)
    have hO2 := OLD_ft b3 hO1
    have l3 : (txt R k ++ [59, 32, 112] ++ numL (nn p)).length = (txt R k).length + 3 + 1 := by rw [List.length_append, l1, l2]
    obtain ⟨B3, im3, lm3, c3, d1, d2, d3⟩ := tx_chr (lm := lm2) b2 32 (by decide) (by rw [l3]; omega)
    have hO3 := OLD_ft d3 hO2
    have hN3 := NW_ft hG d3 (NW_ft hG b3 (NW_ft hG a3 hN))
    have l4 : (txt R k ++ [59, 32, 112] ++ numL (nn p) ++ [nn 32]).length = (txt R k).length + 3 + 1 + 1 := by rw [List.length_append, l3]; rfl
    have h33 : im3 33 p = sc R p := (hN3.2.1.2.1 p (by omega)).1
    obtain ⟨B4, im4, lm4, c4, e1, e2, e3⟩ := tx_num (lm := lm3) d2 hO3.1 hsc (by rw [l4]; omega)
    have hN4 := NW_ft hG e3 hN3
    have htx : txt R k ++ [59, 32, 112] ++ numL (nn p) ++ [nn 32] ++ numL (sc R p) = txt R (k + 1) := by
      show _ = txt R k ++ [59, 32, 112] ++ numL (pat R k (-1)) ++ [32] ++ numL (sc R (pat R k (-1)).toNatClampNeg)
      rw [p3, tn_nn p (by omega)]; rfl
    rw [htx] at e2
    obtain ⟨B5, im5, lm5, c5, f1, f2, f3⟩ := ih (k + 1) B4 im4 lm4 (some (.int (nn p))) c4 (by omega) e2 hN4 (OLD_ft e3 hO3)
    refine ⟨B5, im5, lm5, c5, ?_, f2, FT_t a3 (FT_t b3 (FT_t d3 (FT_t e3 f3)))⟩
    rw [b_201_31, hN.1.1.2.1, hG.1.1, if_neg (nn_ge k (rN R) hkN (by omega)), b_201_42, r162, zeBh_s, b_201_47, r38, zeBh_s, b_201_53, if_neg (show ¬ (1 : Int32) = 0 by decide), b_201_56, a1, zeBh_s, b_201_66, b1, zeBh_s, b_201_70, show (32 : Int32) = nn 32 from rfl, d1, zeBh_s, b_201_75 (c0 := inb_nn _ _ (by omega) (by omega)), tn_nn p (by omega), h33, e1, zeBh_s, b_201_87, nn_s1]
    exact f1
theorem msgC {R : Nat → Int32} {q : Int32} (hG : GD R) {B : zeB} {im : zI} {lm : zJ} (hN : NW im lm R q) (hO : OLD im) (hS : SBd B im) : ∃ B' im' lm' cap', zeRun 201 0 [some (.ref 16), none, none] [] (zk B im lm) = some (none, zk B' im' lm') ∧ TX B' im' (txt R (rN R)) cap' ∧ FT B im lm B' im' lm' := by
  obtain ⟨B1, im1, lm1, c1, a1, a2, a3⟩ := tx_set0 (lm := lm) hS
  have hO1 := OLD_ft a3 hO
  obtain ⟨B2, im2, lm2, c2, b1, b2, b3⟩ := tx_s4 (lm := lm1) a2 hO1.2.1 [112, 104, 97, 115, 101, 32] rfl hO1.2.2.2.1 (by decide)
  have hO2 := OLD_ft b3 hO1
  have hN2 := NW_ft hG b3 (NW_ft hG a3 hN)
  obtain ⟨n, n1, n2⟩ := GD_r0 hG
  have h17 : im2 17 0 = nn n := hN2.1.1.1.trans n2
  obtain ⟨B3, im3, lm3, c3, d1, d2, d3⟩ := tx_num (lm := lm2) b2 hO2.1 (small_nn (n := n) (by omega)) (by rw [numL_1 n1]; decide)
  have htx : [] ++ [112, 104, 97, 115, 101, 32] ++ numL (nn n) = txt R 0 := by rw [← n2]; rfl
  rw [htx] at d2
  obtain ⟨B4, im4, lm4, c4, e1, e2, e3⟩ := msgL hG (rN R) 0 B3 im3 lm3 none c3 (by omega) d2 (NW_ft hG d3 hN2) (OLD_ft d3 hO2)
  refine ⟨B4, im4, lm4, c4, ?_, e2, FT_t a3 (FT_t b3 (FT_t d3 e3))⟩
  rw [b_201_0, a1, zeBh_n, b_201_8, b1, zeBh_s, b_201_18, h17, d1, zeBh_s, b_201_28]
  exact e1
/-- every character is ASCII -/
def asc (l : List Int32) : Prop := ∀ x, x ∈ l → ∃ c, c < 128 ∧ x = nn c
theorem asc_a {l m : List Int32} (h : asc l) (h2 : asc m) : asc (l ++ m) := fun x hx => by
  rcases List.mem_append.mp hx with g | g
  · exact h x g
  · exact h2 x g
theorem asc_d (n d : Nat) : asc (dgl n d) := fun x hx => by
  unfold dgl at hx
  obtain ⟨j, _, h⟩ := List.mem_map.mp hx
  exact ⟨_, by have := Nat.mod_lt (n / 10 ^ (d - 1 - j)) (show 0 < 10 by decide); omega, h.symm⟩
theorem asc_l1 {x : Int32} {c : Nat} (h : c < 128) (hx : x = nn c) : asc [x] := fun y hy => by
  rw [List.mem_singleton] at hy; exact ⟨c, h, hy.trans hx⟩
theorem asc_c {x : Int32} {l : List Int32} {c : Nat} (h : c < 128) (hx : x = nn c) (hl : asc l) : asc (x :: l) := fun y hy => by
  rcases List.mem_cons.mp hy with g | g
  · exact ⟨c, h, g.trans hx⟩
  · exact hl y g
theorem asc_n (x : Int32) : asc (numL x) := by
  unfold numL
  by_cases g : x < 0
  · rw [if_pos g]; exact asc_a (asc_l1 (c := 45) (by decide) rfl) (asc_d _ _)
  · rw [if_neg g]; exact asc_d _ _
theorem asc_0 : asc [] := fun x hx => by cases hx
theorem asc_t (R : Nat → Int32) : ∀ k, asc (txt R k) := by
  intro k
  induction k with
  | zero => exact asc_a (asc_c (c := 112) (by decide) rfl (asc_c (c := 104) (by decide) rfl (asc_c (c := 97) (by decide) rfl (asc_c (c := 115) (by decide) rfl (asc_c (c := 101) (by decide) rfl (asc_c (c := 32) (by decide) rfl asc_0)))))) (asc_n _)
  | succ k ih => exact asc_a (asc_a (asc_a (asc_a ih (asc_c (c := 59) (by decide) rfl (asc_c (c := 32) (by decide) rfl (asc_c (c := 112) (by decide) rfl asc_0)))) (asc_n _)) (asc_c (c := 32) (by decide) rfl asc_0)) (asc_n _)
/-- charAt -/
theorem tx_at {B : zeB} {im : zI} {lm : zJ} {l : List Int32} {cap : Nat} (h : TX B im l cap) (hA : asc l) {i : Nat} (hi : i < l.length) : zeRun 207 0 [some (.ref 168), some (.int (nn i))] [] (zk B im lm) = some (some (.int (im B.buf i)), zk B im lm) := by
  obtain ⟨t1, t2, t3, t4, t5⟩ := id h
  obtain ⟨u1, u2, u3, u4, u5, u6, u7, _⟩ := id t1
  obtain ⟨c, hc, hx⟩ := hA (im B.buf i) (List.mem_of_getElem? (t5 i hi))
  have k1 : ∀ c : Fin 128, zfi2c (Int32.ofNat c.1 &&& 255) = Int32.ofNat c.1 ∧ zeNok FieldType.char (Int32.ofNat c.1) = true := by decide +kernel
  have k2 := k1 ⟨c, hc⟩
  have kz : zfi2c (nn c &&& 255) = nn c := k2.1
  have kn : zeNok FieldType.char (nn c) = true := k2.2
  have hlt : ¬ nn cap < nn l.length := by rw [nn_lt _ _ (by omega) (by omega)]; omega
  have hil : nn i < nn l.length := by rw [nn_lt _ _ (by omega) (by omega)]; exact hi
  rw [b_207_0, b_206_0, ze_st1 (t := zt_206) rfl rfl (o_len u1 _ _ _ _ _), u2, t2, t3, bc_206_16, shr_0, if_neg hlt, b_205_0, b_204_0, if_neg (nn_neg i (by omega)), b_204_4, if_pos hil, b_204_16, zeBh_s, b_205_8, zeBh_n, bc_206_29, if_pos rfl, bc_206_33, ze_st1 (t := zt_206) rfl rfl (o_ld u1 (by rw [u2]; exact inb_nn _ _ (by omega) (by omega)) _ _ _ _ _), tn_nn i (by omega), hx, bd_206_36 (c0 := by rw [kz]; exact kn), kz, zeBh_s, b_207_5 (c0 := kn)]
/-- messageAt, the class -/
theorem msgA {R : Nat → Int32} {q : Int32} (hG : GD R) {B : zeB} {im : zI} {lm : zJ} (hN : NW im lm R q) (hO : OLD im) (hS : SBd B im) (x : Int32) (hx : ¬ x < 0) : ∃ B' im' lm' r, zeRun 208 0 [some (.ref 16), some (.int x)] [] (zk B im lm) = some (some (.int r), zk B' im' lm') ∧ r = ((txt R (rN R))[x.toNatClampNeg]?).getD (-10000005) ∧ SBd B' im' ∧ FT B im lm B' im' lm' := by
  obtain ⟨B1, im1, lm1, c1, a1, a2, a3⟩ := msgC hG hN hO hS
  obtain ⟨x1, x2⟩ := nn_of x (Int32.not_lt.mp hx)
  generalize x.toNatClampNeg = i at x1 x2
  subst x1
  have hlen := txt_len hG (rN R) (Nat.le_refl _)
  have h6 := hG.1.2
  have hle : (nn (txt R (rN R)).length ≤ nn i) = ((txt R (rN R)).length ≤ i) := nn_le _ _ (by omega) x2
  have hrun : zeRun 208 0 [some (.ref 16), some (.int (nn i))] [] (zk B im lm) = if (txt R (rN R)).length ≤ i then zeRun 208 33 [some (.ref 16), some (.int (nn i))] [] (zk B1 im1 lm1) else zeRun 208 22 [some (.ref 16), some (.int (nn i))] [] (zk B1 im1 lm1) := by
    rw [b_208_0, if_pos (Int32.not_lt.mp hx), b_208_7, a1, zeBh_n, b_208_11, b_203_0, b_202_0, zeBh_s, b_203_4, zeBh_s, b_208_19, a2.2.2.1]
    simp only [hle]
  rw [hrun]
  by_cases g : (txt R (rN R)).length ≤ i
  · rw [if_pos g, b_208_33]
    exact ⟨B1, im1, lm1, _, rfl, by rw [List.getElem?_eq_none g]; rfl, SBd_of a2, a3⟩
  · rw [if_neg g, b_208_22, tx_at a2 (asc_t R _) (by omega), zeBh_s, b_208_30]
    exact ⟨B1, im1, lm1, _, rfl, by rw [a2.2.2.2.2 i (by omega)]; rfl, SBd_of a2, a3⟩
