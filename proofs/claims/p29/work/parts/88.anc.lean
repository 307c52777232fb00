/-! ACTS: answer of the class *-/
theorem CR_ap {R R' : Nat → Int32} {im im1 : zI} {lm : zJ} (hG : GD R) (hE : rE R < 60) {p s c t r c' r' : Int32} (e5 : R' 5 = nn (rE R + 1)) (q0 : R' (60 + 5 * rE R) = p) (q1 : R' (60 + 5 * rE R + 1) = s) (q2 : R' (60 + 5 * rE R + 2) = c) (q3 : R' (60 + 5 * rE R + 3) = t) (q4 : R' (60 + 5 * rE R + 4) = r)
  (uo : ∀ j, j ≠ 0 → j ≠ 2 → j ≠ 5 → j ≠ 14 → (j < 60 + 5 * rE R ∨ 60 + 5 * rE R + 5 ≤ j) → R' j = R j) (hc' : c' = orN c) (hr' : r' = orN r)
  (hf : ∀ a, 18 ≤ a → a ≤ 31 → a ≠ 19 → a ≠ 23 → im1 a = apI im (rE R) p s c' t r' a) (h0 : im1 17 0 = R' 0) (h17 : ∀ j, 1 ≤ j → im1 17 j = im 17 j)
  (c8 : (R' 0 = 1 ∨ R' 0 = 2 ∨ R' 0 = 3) → im1 19 0 = R' 2) (c9 : ¬ R' 0 = 3) (c10 : R' 0 = 1 → R 0 = 1 ∧ im1 19 1 = im 19 1 ∧ im1 19 2 = im 19 2 ∧ im1 19 4 = R' 14)
  (c12 : R' 0 = 5 → ∃ a, im1 23 0 = nn a ∧ F5 R' a) (c13 : (R' 0 = 0 ∨ R' 0 = 1 ∨ R' 0 = 2 ∨ R' 0 = 3 ∨ R' 0 = 4) → im1 23 0 = 0) (hc : CR im lm 17 R) : CR im1 lm 17 R' := by
  obtain ⟨⟨b1, b2, b3, b4⟩, b5, ⟨b6, b7⟩, b8, b9, b10, b11, b12, b13⟩ := hc
  have eE : rE R' = rE R + 1 := by unfold rE at *; rw [e5, tn_nn _ (by omega)]
  have ap := apI_n im (rE R) p s c' t r'
  have u : ∀ j, j ≠ 0 → j ≠ 2 → j ≠ 5 → j ≠ 14 → j < 60 → R' j = R j := fun j h1 h2 h3 h4 h5 => uo j h1 h2 h3 h4 (by omega)
  refine ⟨⟨h0, ?_, ?_, ?_⟩, ?_, ⟨?_, ?_⟩, c8, fun h => absurd h c9, ?_, ?_, c12, c13⟩
  · rw [h17 _ (by omega), u 1 (by omega) (by omega) (by omega) (by omega) (by omega)]; exact b2
  · rw [h17 _ (by omega), u 11 (by omega) (by omega) (by omega) (by omega) (by omega)]; exact b3
  · rw [h17 _ (by omega), u 10 (by omega) (by omega) (by omega) (by omega) (by omega)]; exact b4
  · intro j hj; rw [hf (17 + 1) (by omega) (by omega) (by omega) (by omega), ap (17 + 1) (by omega), u _ (by omega) (by omega) (by omega) (by omega) (by omega)]; exact b5 j hj
  · rw [hf (17 + 9) (by omega) (by omega) (by omega) (by omega), e5]; exact u2_s _ _ _ _
  · have hl := LgR_ap (R' := R') (t := t) (p := p) (s := s) (c := c) (r := r) b7 (fun j h1 h2 => uo j (by omega) (by omega) (by omega) (by omega) (by omega)) q0 q1 q2 q3 q4 hc' hr'
    rw [eE]
    exact LgR_im (fun i h1 h2 => hf _ (by omega) (by omega) (by omega) (by omega)) (fun _ _ _ => rfl) hl
  · intro h
    obtain ⟨h1, h2, h3, h4⟩ := c10 h
    obtain ⟨d1, d2, d3, d4⟩ := b10 h1
    have ec : ∀ p, p < 6 → cnt R' p = cnt R p := fun p hp => cnt_c hp (u 3 (by omega) (by omega) (by omega) (by omega) (by omega)) (u 4 (by omega) (by omega) (by omega) (by omega) (by omega)) (GD_rd hG) (fun j h1 h2 => u j (by omega) (by omega) (by omega) (by omega) (by omega))
    refine ⟨h2.trans (d1.trans (u 3 (by omega) (by omega) (by omega) (by omega) (by omega)).symm), h3.trans (d2.trans (u 4 (by omega) (by omega) (by omega) (by omega) (by omega)).symm), h4, fun p hp => ?_⟩
    rw [ec p hp, hf (17 + 3) (by omega) (by omega) (by omega) (by omega), ap (17 + 3) (by omega)]
    refine ⟨(d4 p hp).1, fun t ht => ?_⟩
    rw [told_c hp (fun j h1 h2 => u j (by omega) (by omega) (by omega) (by omega) (by omega)) t ht]
    exact (d4 p hp).2 t ht
  · intro p hp
    rw [hf (17 + 8) (by omega) (by omega) (by omega) (by omega), hf (17 + 7) (by omega) (by omega) (by omega) (by omega), ap (17 + 8) (by omega), ap (17 + 7) (by omega), u _ (by omega) (by omega) (by omega) (by omega) (by omega), u 13 (by omega) (by omega) (by omega) (by omega) (by omega), u _ (by omega) (by omega) (by omega) (by omega) (by omega)]
    exact b11 p hp
def r01 (l : Int32) : Int32 := if l = 0 then 0 else 1
theorem r01_v (l : Int32) : (r01 l = 0 ∨ r01 l = 1) ∧ orN (r01 l) = r01 l ∧ (r01 l = 1 ↔ ¬ l = 0) := by
  unfold r01
  by_cases g : l = 0
  · rw [if_pos g]; exact ⟨Or.inl rfl, by decide, ⟨fun h => absurd h (by decide), fun h => absurd g h⟩⟩
  · rw [if_neg g]; exact ⟨Or.inr rfl, by decide, ⟨fun _ => g, fun _ => rfl⟩⟩
theorem full_e {R : Nat → Int32} {im : zI} (h : im 26 0 = nn (rE R)) (hE : rE R ≤ 60) : ((if im 26 0 < 60 then 0 else 1 : Int32) = 0) = (rE R < 60) := by
  rw [h, if01]; exact (lt60 hE).1
theorem m85_go {R : Nat → Int32} {q : Int32} {im : zI} {lm : zJ} (hn : NW im lm R q) (h : R 0 = 1 ∨ R 0 = 3 ∨ R 0 = 5) (l : Int32) : m_85 l im lm = J_85_39 l im lm := by
  unfold m_85
  rw [hn.1.1.1]
  rcases h with h | h | h
  · rw [if_pos h]
  · rw [if_neg (show ¬ R 0 = 1 by rw [h]; decide), if_pos h]
  · rw [if_neg (show ¬ R 0 = 1 by rw [h]; decide), if_neg (show ¬ R 0 = 3 by rw [h]; decide), if_pos h]
/-- who is to answer -/
theorem m8_1 {R : Nat → Int32} (hG : GD R) {q : Int32} {im : zI} {lm : zJ} (hn : NW im lm R q) (h1 : R 0 = 1) : m_8 im lm = some (qat R 0, im, lm) := by
  have h6 := hG.1.2
  have h69 := s69 hG hn h1 0 (by decide) (rN R) 0 2000 (by omega) (by omega) (fun p hp => absurd hp (Nat.not_lt_zero p))
  unfold m_8 m_69
  rw [hn.1.1.1, if_pos h1, show F_69_2 2000 0 0 im lm = _ from h69, zBd_s]
theorem m8_3 {R : Nat → Int32} (hG : GD R) {q : Int32} {im : zI} {lm : zJ} (hn : NW im lm R q) (h3 : R 0 = 3) : m_8 im lm = some (nn (ctl R), im, lm) := by
  have h6 := hG.1.2
  have hN := GD_ph0 hG (by rw [h3]; decide)
  obtain ⟨hk, _⟩ := ctl_e hG hN
  have hz : (R 1 = 0) = (rN R = 0) := by rw [hG.1.1]; exact nn_inj _ 0 (by omega) (by decide)
  unfold m_8
  rw [hn.1.1.1, if_neg (show ¬ R 0 = 1 by rw [h3]; decide), if_pos h3, hn.1.1.2.1, if_neg (show ¬ R 1 = 0 by rw [hz]; omega), hn.2.1.1.trans hk]
theorem j85 {R : Nat → Int32} (hG : GD R) {q : Int32} {im : zI} {lm : zJ} (hn : NW im lm R q) {p : Nat} (h8 : m_8 im lm = some (nn p, im, lm)) (hp : p < rN R) (l : Int32) : J_85_39 l im lm = if rE R < 60 then (if R 0 = 1 then zBd (m_78 (nn p) l im lm) (fun _ im5 lm5 => J_85_167 (nn p) im5 lm5) else if R 0 = 3 then J_85_147 (nn p) (nn p) 2 (im 19 0) (im 19 3) (r01 l) im lm else zBd (m_84 (nn p) l im lm) (fun _ im6 lm6 => J_85_167 (nn p) im6 lm6)) else some (-10000003, zeU2 im 16 7 7, lm) := by
  have h6 := hG.1.2
  have h26 : im 26 0 = nn (rE R) := hn.1.2.2.1.1.trans hG.2.1.1
  have hs : ((if nn p < 0 then (0 : Int32) else if R 1 ≤ nn p then 0 else 1) = 0) = False := eq_false (by rw [hG.1.1, if_neg (nn_neg p (by omega)), if_neg (nn_ge p (rN R) hp (by omega))]; decide)
  unfold J_85_39
  rw [h8, zBd_s]
  simp only [full_e h26 hG.2.1.2, hn.1.1.2.1, hs, if_false, hn.1.1.1]
  rfl
theorem D_an1 {R : Nat → Int32} (hG : GD R) (h1 : R 0 = 1) (hE : rE R < 60) {p : Nat} (hp : p < rN R) (hat : atp (isqB R) (qaB R) (rN R) 0 = some p) (l : Int32) : ∀ q, DoC (m_85 l) R q (sc (an1 R p (r01 l)) p) (an1 R p (r01 l)) q := by
  intro q im lm hn
  have h6 := hG.1.2
  obtain ⟨rv1, rv2, rv3⟩ := r01_v l
  have hG' := GD_an1 hG h1 hE hp rv1
  obtain ⟨hc, hc2, _⟩ := cl_e hG (Or.inl h1)
  obtain ⟨e5, q0, q1, q2, q3, q4, e0, e2, e14, uo⟩ := ansB_e R p (if R 14 = 0 then 0 else 1) (R 2) (nn (stA R)) (r01 l) (R 14 ||| (1 <<< (nn p &&& 31))) (if r01 l = 1 then 0 else R 0) (if r01 l = 1 then -1 else R 2)
  obtain ⟨b8, b10, b13⟩ : (im 19 0 = R 2) ∧ (im 19 1 = R 3 ∧ im 19 2 = R 4 ∧ im 19 4 = R 14) ∧ im 23 0 = 0 :=
    ⟨hn.1.2.2.2.1 (Or.inl h1), ⟨(hn.1.2.2.2.2.2.1 h1).1, (hn.1.2.2.2.2.2.1 h1).2.1, (hn.1.2.2.2.2.2.1 h1).2.2.1⟩, hn.1.2.2.2.2.2.2.2.2 (Or.inr (Or.inl h1))⟩
  have h26 : im 26 0 = nn (rE R) := hn.1.2.2.1.1.trans hG.2.1.1
  have b1 : im 17 0 = R 0 := hn.1.1.1
  have s8 : im 18 2 = R 8 := hn.1.2.1 2 (by decide)
  have h69 := s69 hG hn h1 0 (by decide) (rN R) 0 2000 (by omega) (by omega) (fun p hp => absurd hp (Nat.not_lt_zero p))
  have hq : qat R 0 = nn p := by unfold qat; rw [hat]
  rw [hq] at h69
  have hnp : ¬ nn p = -10000005 := nn_nn p (by omega)
  have ap := apI_n im (rE R) (nn p) (if R 14 = 0 then 0 else 1) (R 2) (nn (stA R)) (r01 l)
  have hfull : (if im 26 0 < 60 then 0 else 1 : Int32) = 0 := by rw [full_e h26 (by omega)]; exact hE
  have h8 : m_8 im lm = some (nn p, im, lm) := by rw [m8_1 hG hn h1, hq]
  have hj : ∀ im0 : zI, im0 19 4 = R 14 → J_78_111 (nn p) l im0 lm = some ((0 : Int32), if l = 0 then (zeU2 im0 19 4 (R 14 ||| (1 <<< (nn p &&& 31)))) else (zeU2 (zeU2 im0 19 4 (R 14 ||| (1 <<< (nn p &&& 31)))) 17 0 0), lm) := by
    intro im0 h
    unfold J_78_111
    rw [h]
  have hm : m_78 (nn p) l im lm = some ((0 : Int32), if l = 0 then (zeU2 (apI im (rE R) (nn p) (if R 14 = 0 then 0 else 1) (R 2) (nn (stA R)) (r01 l)) 19 4 (R 14 ||| (1 <<< (nn p &&& 31)))) else (zeU2 (zeU2 (apI im (rE R) (nn p) (if R 14 = 0 then 0 else 1) (R 2) (nn (stA R)) (r01 l)) 19 4 (R 14 ||| (1 <<< (nn p &&& 31)))) 17 0 0), lm) := by
    have hv : (100 * (R 2 / 5 + 1) : Int32) = nn (valC (clu R)) := by rw [hc2]; exact val_e _ hc
    unfold m_78 J_78_56 J_78_108
    rw [b10.2.2, b8, s8, hv]
    by_cases g : R 14 = 0
    · have hst : stA R = valC (clu R) := by unfold stA; rw [if_pos g]
      rw [if_pos g, s71 im lm (rE R) hE h26, zBd_s, hj _ (by rw [apI_n _ _ _ _ _ _ _ 19 (by omega)]; exact b10.2.2), if_pos g, hst]; rfl
    · have hst : (nn (valC (clu R)) * R 8 / 100 : Int32) = nn (stA R) := by
        obtain ⟨_, _, ⟨s, hs, h8⟩, _⟩ := hG.2.2.2.2.2.2.1
        have hvl : valC (clu R) ≤ 500 := by unfold valC; omega
        have hml : valC (clu R) * s ≤ 500 * 100 := Nat.mul_le_mul hvl hs
        unfold stA
        rw [if_neg g, h8, tn_nn _ (by omega), nn_mul, show nn (valC (clu R) * s) / 100 = nn (valC (clu R) * s / 100) from div_l _ 100 (by omega) (by decide)]
      rw [if_neg g, hst, s71 im lm (rE R) hE h26, zBd_s, hj _ (by rw [apI_n _ _ _ _ _ _ _ 19 (by omega)]; exact b10.2.2), if_neg g]; rfl
  have hm85 : m_85 l im lm = zBd (m_77 (nn p) (if l = 0 then (zeU2 (apI im (rE R) (nn p) (if R 14 = 0 then 0 else 1) (R 2) (nn (stA R)) (r01 l)) 19 4 (R 14 ||| (1 <<< (nn p &&& 31)))) else (zeU2 (zeU2 (apI im (rE R) (nn p) (if R 14 = 0 then 0 else 1) (R 2) (nn (stA R)) (r01 l)) 19 4 (R 14 ||| (1 <<< (nn p &&& 31)))) 17 0 0)) lm) fun v1 im1 lm1 => some (v1, im1, lm1) := by
    rw [m85_go hn (Or.inl h1), j85 hG hn h8 hp, if_pos hE, if_pos h1, hm, zBd_s]; rfl
  rw [hm85]
  generalize him0 : apI im (rE R) (nn p) (if R 14 = 0 then 0 else 1) (R 2) (nn (stA R)) (r01 l) = im0 at ap
  generalize him1 : (if l = 0 then (zeU2 im0 19 4 (R 14 ||| (1 <<< (nn p &&& 31)))) else (zeU2 (zeU2 im0 19 4 (R 14 ||| (1 <<< (nn p &&& 31)))) 17 0 0)) = im1
  have f1 : ∀ a, a ≠ 17 → a ≠ 19 → im1 a = im0 a := fun a g1 g2 => by
    rw [← him1]
    by_cases g : l = 0
    · rw [if_pos g, u2n _ _ _ _ _ g2]
    · rw [if_neg g, u2n _ _ _ _ _ g1, u2n _ _ _ _ _ g2]
  have f19 : im1 19 4 = R 14 ||| (1 <<< (nn p &&& 31)) ∧ ∀ j, j ≠ 4 → im1 19 j = im 19 j := by
    rw [← him1]
    by_cases g : l = 0
    · rw [if_pos g]; exact ⟨u2_s _ _ _ _, fun j hj => by rw [u2_j _ _ _ _ _ _ hj, ap 19 (by omega)]⟩
    · rw [if_neg g, u2n _ _ _ _ _ (by decide)]; exact ⟨u2_s _ _ _ _, fun j hj => by rw [u2_j _ _ _ _ _ _ hj, ap 19 (by omega)]⟩
  have f17 : im1 17 0 = (if r01 l = 1 then 0 else R 0) ∧ ∀ j, 1 ≤ j → im1 17 j = im 17 j := by
    rw [← him1]
    by_cases g : l = 0
    · have g2 : ¬ r01 l = 1 := fun h => (rv3.mp h) g
      rw [if_pos g, if_neg g2, u2n _ _ _ _ _ (by decide), ap 17 (by omega)]; exact ⟨b1, fun _ _ => rfl⟩
    · rw [if_neg g, if_pos (rv3.mpr g)]; exact ⟨u2_s _ _ _ _, fun j hj => by rw [u2_j _ _ _ _ _ _ (by omega), u2n _ _ _ _ _ (by decide), ap 17 (by omega)]⟩
  have hc1 : CR im1 lm 17 (an1 R p (r01 l)) := by
    refine CR_ap (R' := an1 R p (r01 l)) (im := im) (c' := R 2) (r' := r01 l) hG hE e5 q0 q1 q2 q3 q4 uo ?_ rv2.symm (fun a h1 h2 h3 h4 => by rw [f1 a (by omega) h3, him0]) (f17.1.trans e0.symm) f17.2 ?_ ?_ ?_ ?_ ?_ hn.1
    · rw [hc2, orN_n _ (by omega)]
    · rw [show an1 R p (r01 l) 0 = _ from e0, show an1 R p (r01 l) 2 = _ from e2]
      by_cases g : r01 l = 1
      · rw [if_pos g]; intro h; exact absurd h (by decide)
      · rw [if_neg g, if_neg g, f19.2 0 (by decide)]; exact fun _ => b8
    · rw [show an1 R p (r01 l) 0 = _ from e0, h1]
      by_cases g : r01 l = 1
      · rw [if_pos g]; decide
      · rw [if_neg g]; decide
    · intro _
      exact ⟨h1, f19.2 1 (by decide), f19.2 2 (by decide), f19.1.trans e14.symm⟩
    · rw [show an1 R p (r01 l) 0 = _ from e0, h1]; intro h; exfalso
      by_cases g : r01 l = 1
      · rw [if_pos g] at h; exact absurd h (by decide)
      · rw [if_neg g] at h; exact absurd h (by decide)
    · intro _; rw [f1 23 (by decide) (by decide), ap 23 (by omega)]; exact b13
  obtain ⟨im2, k1, k2, k3⟩ := s77 (p := p) (q := q) (by omega) hG' hc1 (by rw [f1 16 (by decide) (by decide), ap 16 (by omega)]; exact hn.2.2.1) (by rw [f1 1 (by decide) (by decide), ap 1 (by omega)]; exact hn.2.2.2)
  refine ⟨im2, lm, ?_, k2, FN_of (fun a ha => by rw [f1 a (by omega) (by omega), ap a (by omega)]) k3⟩
  rw [k1, zBd_s]
theorem D_an3 {R : Nat → Int32} (hG : GD R) (h3 : R 0 = 3) (hE : rE R < 60) (l : Int32) : ∀ q, DoC (m_85 l) R q (sc (an3 R (r01 l)) (ctl R)) (an3 R (r01 l)) q := by
  intro q im lm hn
  have h6 := hG.1.2
  obtain ⟨rv1, rv2, rv3⟩ := r01_v l
  have hG' := GD_an3 hG h3 hE rv1
  have hN := GD_ph0 hG (by rw [h3]; decide)
  obtain ⟨hk, hp⟩ := ctl_e hG hN
  obtain ⟨hc, hc2, _⟩ := cl_e hG (Or.inr (Or.inr h3))
  obtain ⟨e5, q0, q1, q2, q3, q4, e0, e2, e14, uo⟩ := ansB_e R (ctl R) 2 (R 2) (R 12) (r01 l) (R 14) 0 (-1)
  have b8 : im 19 0 = R 2 := hn.1.2.2.2.1 (Or.inr (Or.inr h3))
  have b9 : im 19 3 = R 12 := hn.1.2.2.2.2.1 h3
  have b13 : im 23 0 = 0 := hn.1.2.2.2.2.2.2.2.2 (Or.inr (Or.inr (Or.inr (Or.inl h3))))
  have h26 : im 26 0 = nn (rE R) := hn.1.2.2.1.1.trans hG.2.1.1
  have h32 : im 32 0 = nn (ctl R) := hn.2.1.1.trans hk
  have ap := apI_n im (rE R) (nn (ctl R)) 2 (R 2) (R 12) (r01 l)
  have hfull : (if im 26 0 < 60 then 0 else 1 : Int32) = 0 := by rw [full_e h26 (by omega)]; exact hE
  have hm : m_85 l im lm = zBd (m_77 (nn (ctl R)) (zeU2 (apI im (rE R) (nn (ctl R)) 2 (R 2) (R 12) (r01 l)) 17 0 0) lm) fun v2 im2 lm2 => some (v2, im2, lm2) := by
    rw [m85_go hn (Or.inr (Or.inl h3)), j85 hG hn (m8_3 hG hn h3) hp, if_pos hE, if_neg (show ¬ R 0 = 1 by rw [h3]; decide), if_pos h3]
    unfold J_85_147
    rw [b8, b9, s71 im lm (rE R) hE h26, zBd_s]; rfl
  rw [hm]
  generalize him0 : apI im (rE R) (nn (ctl R)) 2 (R 2) (R 12) (r01 l) = im0 at ap
  have hc1 : CR (zeU2 im0 17 0 0) lm 17 (an3 R (r01 l)) := by
    refine CR_ap (R' := an3 R (r01 l)) (im := im) (c' := R 2) (r' := r01 l) hG hE e5 q0 q1 q2 q3 q4 uo ?_ rv2.symm (fun a h1 h2 h3 h4 => by rw [u2n _ _ _ _ _ (by omega), him0]) (by rw [u2_s]; exact e0.symm) (fun j hj => by rw [u2_j _ _ _ _ _ _ (by omega), ap 17 (by omega)]) ?_ ?_ ?_ ?_ ?_ hn.1
    · rw [hc2, orN_n _ (by omega)]
    · rw [show an3 R (r01 l) 0 = _ from e0]; intro h; exact absurd h (by decide)
    · rw [show an3 R (r01 l) 0 = _ from e0]; decide
    · rw [show an3 R (r01 l) 0 = _ from e0]; intro h; exact absurd h (by decide)
    · rw [show an3 R (r01 l) 0 = _ from e0]; intro h; exact absurd h (by decide)
    · intro _; rw [u2n _ _ _ _ _ (by decide), ap 23 (by omega)]; exact b13
  obtain ⟨im2, k1, k2, k3⟩ := s77 (p := ctl R) (q := q) (by omega) hG' hc1 (by rw [u2n _ _ _ _ _ (by decide), ap 16 (by omega)]; exact hn.2.2.1) (by rw [u2n _ _ _ _ _ (by decide), ap 1 (by omega)]; exact hn.2.2.2)
  refine ⟨im2, lm, ?_, k2, FN_of (fun a ha => by rw [u2n _ _ _ _ _ (by omega), ap a (by omega)]) k3⟩
  rw [k1, zBd_s]
theorem st24_of {R : Nat → Int32} {im : zI} {lm : zJ} {q : Int32} (hG : GD R) (hn : NW im lm R q) : St24 R im := ⟨fun p hp => (hn.1.2.2.2.2.2.2.1 p hp).2, hG.2.2.2.2.2.2.2.2.2.2.2.1⟩
theorem F5_u {R : Nat → Int32} {a a' : Nat} (h : F5 R a) (h' : F5 R a') : a = a' := by
  rcases Nat.lt_trichotomy a a' with g | g | g
  · obtain ⟨p, p1, p2, p3, _⟩ := nxt_some (R := R) 0 h.1
    have h1 := (h.2 p p1 p2)
    have h2 := (h'.2 p p1 p2)
    have := h1.mp (h2.mpr (by omega)); omega
  · exact g
  · obtain ⟨p, p1, p2, p3, _⟩ := nxt_some (R := R) 0 h'.1
    have h1 := (h.2 p p1 p2)
    have h2 := (h'.2 p p1 p2)
    have := h2.mp (h1.mpr (by omega)); omega
theorem m8_5 {R : Nat → Int32} (hG : GD R) {q : Int32} {im : zI} {lm : zJ} (hn : NW im lm R q) (h5 : R 0 = 5) {a : Nat} (hF : F5 R a) : m_8 im lm = some (nxt R a (-10000005), im, lm) := by
  have hmem : cntN (ptB R) 6 ≤ 6 := cntN_le _ 6
  have ha := hF.1
  have h23 : im 23 0 = nn a := by
    obtain ⟨a', g1, g2⟩ := hn.1.2.2.2.2.2.2.2.1 h5
    rw [F5_u hF g2]; exact g1
  have h82 := s82 (lm := lm) (st24_of hG hn) a (by omega) h23 6 0 2000 rfl (by omega) (fun p hp => absurd hp (Nat.not_lt_zero p))
  unfold m_8 m_82
  rw [hn.1.1.1, if_neg (show ¬ R 0 = 1 by rw [h5]; decide), if_neg (show ¬ R 0 = 3 by rw [h5]; decide), show F_82_2 2000 0 im lm = _ from h82, zBd_s]
/-- who takes part in the final round is a player -/
theorem fin_pl {R : Nat → Int32} (hG : GD R) {p : Nat} (hpt : bt (R 13) p = true) : p < rN R := by
  obtain ⟨⟨a1, a2⟩, ⟨a3, a4⟩, a5, a6, a7, a8, a9, a10, a11, a12, a13, a14, a15, a16, a17, a18⟩ := id hG
  rcases Nat.lt_or_ge p (rN R) with g | g
  · exact g
  · rw [(a13 p g).1] at hpt; cases hpt
/-- behind an answer of the final round -/
theorem F5a_an5 {R : Nat → Int32} (hG : GD R) {a : Nat} (hF : F5 R a) (hE : rE R < 60) (r : Int32) : F5a (an5 R (nxt R a 0).toNatClampNeg a r) (a + 1) ∧ ptB (an5 R (nxt R a 0).toNatClampNeg a r) = ptB R := by
  obtain ⟨n1, n2, n3, n4⟩ := nxt_0 hF.1
  generalize (nxt R a 0).toNatClampNeg = p at n1 n2 n3
  obtain ⟨e5, q0, q1, q2, q3, q4, e0, e2, e14, uo⟩ := ansB_e R p 3 (-1) (R (22 + p)) r (R 14 ||| (1 <<< (nn p &&& 31))) (if a + 1 < cntN (ptB R) 6 then 5 else 6) (R 2)
  have e13 : an5 R p a r 13 = R 13 := uo 13 (by omega) (by omega) (by omega) (by omega) (by omega)
  have ept : ptB (an5 R p a r) = ptB R := by funext x; unfold ptB; rw [e13]
  refine ⟨?_, ept⟩
  intro x hx hb
  rw [e13] at hb
  rw [show an5 R p a r 14 = _ from e14, b_set _ _ (by omega), plc_c (sel := ptB R) (lt := flB R) (fun o _ => by rw [ept]) (fun o ho => by unfold flB; rw [show an5 R p a r (16 + o) = _ from uo (16 + o) (by omega) (by omega) (by omega) (by omega) (by omega), show an5 R p a r (16 + x) = _ from uo (16 + x) (by omega) (by omega) (by omega) (by omega) (by omega)])]
  have h1 := hF.2 x hx hb
  rw [Bool.or_eq_true, h1, decide_eq_true_eq]
  constructor
  · rintro (h | h)
    · omega
    · subst h; omega
  · intro h
    by_cases g : plc (ptB R) (flB R) 6 x = a
    · exact Or.inr (plc_inj _ _ (fl_o R) 6 x p hx hb n1 n2 (g.trans n3.symm))
    · exact Or.inl (by omega)
theorem D_an5 {R : Nat → Int32} (hG : GD R) (h5 : R 0 = 5) (hE : rE R < 60) {a : Nat} (hF : F5 R a) (l : Int32) : ∀ q, DoC (m_85 l) R q (sc (an5 R (nxt R a 0).toNatClampNeg a (r01 l)) (nxt R a 0).toNatClampNeg) (an5 R (nxt R a 0).toNatClampNeg a (r01 l)) q := by
  intro q im lm hn
  have h6 := hG.1.2
  obtain ⟨rv1, rv2, rv3⟩ := r01_v l
  obtain ⟨n1, n2, n3, n4⟩ := nxt_0 hF.1
  have hG' := GD_an5 (a := a) hG h5 hE n1 n2 rv1
  obtain ⟨hFa, hpt⟩ := F5a_an5 hG hF hE (r01 l)
  have h24 := st24_of hG hn
  have hmem : cntN (ptB R) 6 ≤ 6 := cntN_le _ 6
  have ha := hF.1
  have h23 : im 23 0 = nn a := by
    obtain ⟨a', g1, g2⟩ := hn.1.2.2.2.2.2.2.2.1 h5
    rw [F5_u hF g2]; exact g1
  have h8 := m8_5 hG hn h5 hF
  rw [n4] at h8
  have h25 : im 25 (nxt R a 0).toNatClampNeg = R (22 + (nxt R a 0).toNatClampNeg) := by
    have := (hn.1.2.2.2.2.2.2.1 _ n1).1
    refine this.trans ?_
    rcases hG.2.2.2.2.2.2.2.2.2.2.2.2.1 _ n1 with h | ⟨w, hw, h⟩
    · exact absurd h (hG.2.2.2.2.2.2.2.2.2.2.2.2.2.1 h5 _ n1 n2)
    · rw [h, orN_n _ (by omega)]
  generalize (nxt R a 0).toNatClampNeg = p at n1 n2 n3 hG' hFa hpt h8 h25
  obtain ⟨e5, q0, q1, q2, q3, q4, e0, e2, e14, uo⟩ := ansB_e R p 3 (-1) (R (22 + p)) (r01 l) (R 14 ||| (1 <<< (nn p &&& 31))) (if a + 1 < cntN (ptB R) 6 then 5 else 6) (R 2)
  have b1 : im 17 0 = R 0 := hn.1.1.1
  have h26 : im 26 0 = nn (rE R) := hn.1.2.2.1.1.trans hG.2.1.1
  have ap := apI_n im (rE R) (nn p) 3 (-10000005) (R (22 + p)) (r01 l)
  have hfull : (if im 26 0 < 60 then 0 else 1 : Int32) = 0 := by rw [full_e h26 (by omega)]; exact hE
  have hcl : (nn (a + 1) < nn (cntN (ptB R) 6)) = (a + 1 < cntN (ptB R) 6) := nn_lt _ _ (by omega) (by omega)
  have h84 : m_84 (nn p) l im lm = some ((0 : Int32), if a + 1 < cntN (ptB R) 6 then zeU2 (apI im (rE R) (nn p) 3 (-10000005) (R (22 + p)) (r01 l)) 23 0 (nn (a + 1)) else zeU2 (zeU2 (apI im (rE R) (nn p) 3 (-10000005) (R (22 + p)) (r01 l)) 23 0 (nn (a + 1))) 17 0 6, lm) := by
    unfold m_84 J_84_32
    simp (disch := omega) only [nn_mull, nn_mulr, nn_addl, nn_addr, nn_add, nn_mul, tn_nn, tn_l, inb_nn, inb_l, zCk_t, ite_self, zBd_s, h25]
    rw [show (if l = 0 then (0 : Int32) else 1) = r01 l from rfl, s71 im lm (rE R) hE h26, zBd_s, ap 23 (by omega), h23, nn_addr]
    have h24' : St24 R (zeU2 (apI im (rE R) (nn p) 3 (-10000005) (R (22 + p)) (r01 l)) 23 0 (nn (a + 1))) := ⟨fun x hx => by rw [u2n _ _ _ _ _ (by decide), ap 24 (by omega)]; exact h24.1 x hx, h24.2⟩
    rw [show nn (a + OfNat.ofNat 1) = nn (a + 1) from rfl, s83w h24', zBd_s]
    simp only [hcl]
  have hm : m_85 l im lm = zBd (m_77 (nn p) (if a + 1 < cntN (ptB R) 6 then zeU2 (apI im (rE R) (nn p) 3 (-10000005) (R (22 + p)) (r01 l)) 23 0 (nn (a + 1)) else zeU2 (zeU2 (apI im (rE R) (nn p) 3 (-10000005) (R (22 + p)) (r01 l)) 23 0 (nn (a + 1))) 17 0 6) lm) fun v1 im1 lm1 => some (v1, im1, lm1) := by
    rw [m85_go hn (Or.inr (Or.inr h5)), j85 hG hn h8 (fin_pl hG n2), if_pos hE, if_neg (show ¬ R 0 = 1 by rw [h5]; decide), if_neg (show ¬ R 0 = 3 by rw [h5]; decide), h84, zBd_s]; rfl
  rw [hm]
  generalize him0 : apI im (rE R) (nn p) 3 (-10000005) (R (22 + p)) (r01 l) = im0 at ap
  generalize him1 : (if a + 1 < cntN (ptB R) 6 then zeU2 im0 23 0 (nn (a + 1)) else zeU2 (zeU2 im0 23 0 (nn (a + 1))) 17 0 6) = im1
  have f1 : ∀ x, x ≠ 17 → x ≠ 23 → im1 x = im0 x := fun x g1 g2 => by
    rw [← him1]
    by_cases g : a + 1 < cntN (ptB R) 6
    · rw [if_pos g, u2n _ _ _ _ _ g2]
    · rw [if_neg g, u2n _ _ _ _ _ g1, u2n _ _ _ _ _ g2]
  have f23 : im1 23 0 = nn (a + 1) := by
    rw [← him1]
    by_cases g : a + 1 < cntN (ptB R) 6
    · rw [if_pos g, u2_s]
    · rw [if_neg g, u2n _ _ _ _ _ (by decide), u2_s]
  have f17 : im1 17 0 = (if a + 1 < cntN (ptB R) 6 then 5 else 6) ∧ ∀ j, 1 ≤ j → im1 17 j = im 17 j := by
    rw [← him1]
    by_cases g : a + 1 < cntN (ptB R) 6
    · rw [if_pos g, if_pos g, u2n _ _ _ _ _ (by decide), ap 17 (by omega)]; exact ⟨b1.trans h5, fun _ _ => rfl⟩
    · rw [if_neg g, if_neg g]; exact ⟨u2_s _ _ _ _, fun j hj => by rw [u2_j _ _ _ _ _ _ (by omega), u2n _ _ _ _ _ (by decide), ap 17 (by omega)]⟩
  have e0c : an5 R p a (r01 l) 0 = 5 ∧ a + 1 < cntN (ptB R) 6 ∨ an5 R p a (r01 l) 0 = 6 := by
    rw [show an5 R p a (r01 l) 0 = _ from e0]
    by_cases g : a + 1 < cntN (ptB R) 6
    · rw [if_pos g]; exact Or.inl ⟨rfl, g⟩
    · rw [if_neg g]; exact Or.inr rfl
  have hc1 : CR im1 lm 17 (an5 R p a (r01 l)) := by
    refine CR_ap (R' := an5 R p a (r01 l)) (im := im) (c' := -10000005) (r' := r01 l) hG hE e5 q0 q1 q2 q3 q4 uo orN_m.symm rv2.symm (fun a h1 h2 h3 h4 => by rw [f1 a (by omega) h4, him0]) (f17.1.trans e0.symm) f17.2 ?_ ?_ ?_ ?_ ?_ hn.1
    · rcases e0c with ⟨h, _⟩ | h <;> rw [h] <;> intro h <;> exact absurd h (by decide)
    · rcases e0c with ⟨h, _⟩ | h <;> rw [h] <;> decide
    · rcases e0c with ⟨h, _⟩ | h <;> rw [h] <;> intro h <;> exact absurd h (by decide)
    · intro h
      rcases e0c with ⟨_, g⟩ | g
      · exact ⟨a + 1, f23, by rw [hpt]; exact g, hFa⟩
      · rw [g] at h; exact absurd h (by decide)
    · rcases e0c with ⟨h, _⟩ | h <;> rw [h] <;> intro h <;> exact absurd h (by decide)
  obtain ⟨im2, k1, k2, k3⟩ := s77 (p := p) (q := q) n1 hG' hc1 (by rw [f1 16 (by decide) (by decide), ap 16 (by omega)]; exact hn.2.2.1) (by rw [f1 1 (by decide) (by decide), ap 1 (by omega)]; exact hn.2.2.2)
  refine ⟨im2, lm, ?_, k2, FN_of (fun x hx => by rw [f1 x (by omega) (by omega), ap x (by omega)]) k3⟩
  rw [k1, zBd_s]
