/-! ACTS: answer, class and model *-/
theorem zBd_id (x : zR) : zBd x (fun v im lm => some (v, im, lm)) = x := by
  cases x with
  | none => rfl
  | some y => obtain ⟨v, im, lm⟩ := y; rfl
theorem DoC_of {D D' : zI → zJ → zR} {R R' : Nat → Int32} {q r q' : Int32} (h : ∀ im lm, NW im lm R q → D im lm = D' im lm) (hD : DoC D' R q r R' q') : DoC D R q r R' q' := by
  intro im lm hn
  obtain ⟨im', lm', h1, h2, h3⟩ := hD im lm hn
  exact ⟨im', lm', (h im lm hn).trans h1, h2, h3⟩
theorem ph_cases {R : Nat → Int32} (hG : GD R) : R 0 = 0 ∨ R 0 = 1 ∨ R 0 = 2 ∨ R 0 = 3 ∨ R 0 = 4 ∨ R 0 = 5 ∨ R 0 = 6 := by
  obtain ⟨ph, h, e⟩ := hG.2.2.2.1
  have : ph = 0 ∨ ph = 1 ∨ ph = 2 ∨ ph = 3 ∨ ph = 4 ∨ ph = 5 ∨ ph = 6 := by omega
  rcases this with g | g | g | g | g | g | g <;> subst g
  · exact Or.inl e
  · exact Or.inr (Or.inl e)
  · exact Or.inr (Or.inr (Or.inl e))
  · exact Or.inr (Or.inr (Or.inr (Or.inl e)))
  · exact Or.inr (Or.inr (Or.inr (Or.inr (Or.inl e))))
  · exact Or.inr (Or.inr (Or.inr (Or.inr (Or.inr (Or.inl e)))))
  · exact Or.inr (Or.inr (Or.inr (Or.inr (Or.inr (Or.inr e)))))
theorem m85_n {R : Nat → Int32} (hG : GD R) (h : ¬ (R 0 = 1 ∨ R 0 = 3 ∨ R 0 = 5)) (l : Int32) {im : zI} {lm : zJ} {q : Int32} (hn : NW im lm R q) : m_85 l im lm = some (-10000003, zeU2 im 16 7 1, lm) := by
  unfold m_85
  rw [hn.1.1.1, if_neg (fun g => h (Or.inl g)), if_neg (fun g => h (Or.inr (Or.inl g))), if_neg (fun g => h (Or.inr (Or.inr g)))]; rfl
theorem nful {R : Nat → Int32} {im : zI} (h : im 26 0 = nn (rE R)) (g : rE R = 60) : ¬ (if im 26 0 < 60 then 0 else 1 : Int32) = 0 := by
  rw [h, g]; decide
theorem DoA_ans {R : Nat → Int32} (hG : GD R) (l : Int32) {a : Nat} (hF : R 0 = 5 → F5 R a) : DoA (m_85 l) R (aAns R (r01 l) a) := by
  have hE := hG.2.1.2
  by_cases g1 : R 0 = 1
  · cases hat : atp (isqB R) (qaB R) (rN R) 0 with
    | none =>
      refine DoA_mk (by unfold aAns; rw [if_pos g1, hat]) (ref_D' hG 4 (by decide) fun im lm q hn => ?_)
      have hq : qat R 0 = -10000005 := by unfold qat; rw [hat]
      rw [m85_go hn (Or.inl g1)]
      unfold J_85_39
      rw [m8_1 hG hn g1, hq, zBd_s, if_pos (show (-10000005 : Int32) < 0 by decide), if_pos rfl]; rfl
    | some p =>
      have hp := ((atp_some _ _ (qa_o R) _ _ _).mp hat).1
      by_cases g : rE R = 60
      · refine DoA_mk (by unfold aAns fin7; rw [if_pos g1, hat]; simp only [g, if_true]) (ref_D' hG 7 (by decide) fun im lm q hn => ?_)
        have hq : qat R 0 = nn p := by unfold qat; rw [hat]
        exact (m85_go hn (Or.inl g1) l).trans ((j85 hG hn (by rw [m8_1 hG hn g1, hq]) hp l).trans (if_neg (by omega)))
      · refine DoA_mk (r := sc (an1 R p (r01 l)) p) (R' := an1 R p (r01 l)) (w := 0) (by unfold aAns fin7; rw [if_pos g1, hat]; simp only [g, if_false]) fun q => ?_
        exact D_an1 hG g1 (by omega) hp hat l q
  by_cases g3 : R 0 = 3
  · have hN := GD_ph0 hG (by rw [g3]; decide)
    by_cases g : rE R = 60
    · refine DoA_mk (by unfold aAns fin7; rw [if_neg g1, if_pos g3, if_pos g]) (ref_D' hG 7 (by decide) fun im lm q hn => ?_)
      exact (m85_go hn (Or.inr (Or.inl g3)) l).trans ((j85 hG hn (m8_3 hG hn g3) (ctl_e hG hN).2 l).trans (if_neg (by omega)))
    · refine DoA_mk (r := sc (an3 R (r01 l)) (ctl R)) (R' := an3 R (r01 l)) (w := 0) (by unfold aAns fin7; rw [if_neg g1, if_pos g3, if_neg g]) fun q => ?_
      exact D_an3 hG g3 (by omega) l q
  by_cases g5 : R 0 = 5
  · by_cases g : rE R = 60
    · refine DoA_mk (by unfold aAns fin7; rw [if_neg g1, if_neg g3, if_pos g5, if_pos g]) (ref_D' hG 7 (by decide) fun im lm q hn => ?_)
      obtain ⟨n1, n2, n3, n4⟩ := nxt_0 (hF g5).1
      exact (m85_go hn (Or.inr (Or.inr g5)) l).trans ((j85 hG hn (by rw [m8_5 hG hn g5 (hF g5), n4]) (fin_pl hG n2) l).trans (if_neg (by omega)))
    · refine DoA_mk (r := sc (an5 R (nxt R a 0).toNatClampNeg a (r01 l)) (nxt R a 0).toNatClampNeg) (R' := an5 R (nxt R a 0).toNatClampNeg a (r01 l)) (w := 0) (by unfold aAns fin7; rw [if_neg g1, if_neg g3, if_pos g5, if_neg g]) fun q => ?_
      exact D_an5 hG g5 (by omega) (hF g5) l q
  · refine DoA_mk (by unfold aAns; rw [if_neg g1, if_neg g3, if_neg g5]) (ref_D' hG 1 (by decide) fun im lm q hn => ?_)
    exact m85_n hG (by rintro (h | h | h); exact g1 h; exact g3 h; exact g5 h) l hn
/-! the model -/
def cAns (R : Nat → Int32) : Int32 × Int32 := if R 0 = 1 ∨ R 0 = 3 ∨ R 0 = 5 then (if R 0 = 1 ∧ cntN (isqB R) (rN R) = 0 then (-10000003, 4) else if rE R = 60 then (-10000003, 7) else (0, 0)) else (-10000003, 1)
theorem m87_50 {R : Nat → Int32} (hG : GD R) (im : zI) (lm : zJ) (hR : im 171 = R) : J_87_50 im lm = if rE R = 60 then some (-10000003, zeU2 im 170 5 7, lm) else some (0, im, lm) := by
  have hc : (R 5 = 60) = (rE R = 60) := by rw [hG.2.1.1]; exact (lt60 hG.2.1.2).2
  unfold J_87_50
  rw [hR]
  simp only [hc]; rfl
theorem Ch_ans {R : Nat → Int32} (hG : GD R) : ChM m_87 R (cAns R).1 (cAns R).2 := by
  have h6 := hG.1.2
  unfold cAns
  by_cases gp : R 0 = 1 ∨ R 0 = 3 ∨ R 0 = 5
  · rw [if_pos gp]
    intro im lm hR
    obtain ⟨im2, k1, k2, k3, k4, k5, k6, k7⟩ := s47g hG im lm hR
    have hm : m_87 im lm = if R 0 = 1 then zBd (m_64 im2 lm) (fun v2 im2 lm2 => if v2 = 0 then zBd (m_24 4 im2 lm2) fun v3 im3 lm3 => some (v3, im3, lm3) else J_87_50 im2 lm2) else J_87_50 im2 lm := by
      unfold m_87 J_87_28
      rw [hR, k1]
      rcases gp with g | g | g
      · rw [if_pos g, zBd_s]
      · have : ¬ R 0 = 1 := by rw [g]; decide
        rw [if_neg this, if_pos g, zBd_s]
      · have h1 : ¬ R 0 = 1 := by rw [g]; decide
        have h3 : ¬ R 0 = 3 := by rw [g]; decide
        rw [if_neg h1, if_neg h3, if_pos g, zBd_s]
    have hend : ∀ im3, FM im im3 → im3 171 = R → im3 170 5 = im 170 5 → ∃ im', J_87_50 im3 lm = some ((if rE R = 60 then (-10000003, 7) else (0, 0) : Int32 × Int32).1, im', lm) ∧ FM im im' ∧ im' 171 = R ∧ im' 170 5 = rsn (im 170 5) (if rE R = 60 then (-10000003, 7) else (0, 0) : Int32 × Int32).2 := by
      intro im3 f1 f2 f3
      rw [m87_50 hG im3 lm f2]
      by_cases g : rE R = 60
      · simp only [if_pos g]
        refine ⟨_, rfl, FM_t f1 (fun a j h1 h2 h3 h4 => by rw [u2_e, if_neg (by omega)]), (u2n _ _ _ _ _ (by decide)).trans f2, u2_s _ _ _ _⟩
      · simp only [if_neg g]
        exact ⟨im3, rfl, f1, f2, f3⟩
    rw [hm]
    by_cases g1 : R 0 = 1
    · obtain ⟨im3, a1, a2, a3⟩ := s64w hG im2 lm k3 (fun q hq => (k6 q hq).1)
      have f1 : FM im im3 := FM_t k2 (fun a j h1 h2 h3 h4 => by rw [a2 a (by omega)])
      rw [if_pos g1, a1, zBd_s]
      have hz : (nn (cntN (isqB R) (rN R)) = 0) = (cntN (isqB R) (rN R) = 0) := by
        rw [show (0 : Int32) = nn 0 from rfl]; exact nn_inj _ _ (by have := cntN_le (isqB R) (rN R); omega) (by omega)
      simp only [hz]
      by_cases g : cntN (isqB R) (rN R) = 0
      · rw [if_pos g, if_pos ⟨g1, g⟩]
        refine ⟨zeU2 im3 170 5 4, rfl, FM_t f1 (fun a j h1 h2 h3 h4 => by rw [u2_e, if_neg (by omega)]), (u2n _ _ _ _ _ (by decide)).trans ((a2 171 (by decide)).trans k3), u2_s _ _ _ _⟩
      · rw [if_neg g, if_neg (fun h => g h.2)]
        exact hend im3 f1 ((a2 171 (by decide)).trans k3) (by rw [a2 170 (by decide), k4])
    · rw [if_neg g1, if_neg (fun h => g1 h.1)]
      exact hend im2 k2 k3 k4
  · rw [if_neg gp]
    have h1 : ¬ R 0 = 1 := fun h => gp (Or.inl h)
    have h3 : ¬ R 0 = 3 := fun h => gp (Or.inr (Or.inl h))
    have h5 : ¬ R 0 = 5 := fun h => gp (Or.inr (Or.inr h))
    exact ch_ref 1 (by decide) fun im lm hR => by unfold m_87; rw [hR, if_neg h1, if_neg h3, if_neg h5]; rfl
/-- the end of the model's answers -/
theorem s90_259 {R' : Nat → Int32} (hG' : GD R') (p : Nat) (hp : p < 6) (im : zI) (lm : zJ) (hR : im 171 = R') : ∃ im', J_90_259 (nn p) im lm = some (sc R' p, im', lm) ∧ FM im im' ∧ im' 171 = R' ∧ im' 170 5 = im 170 5 := by
  obtain ⟨im2, k1, k2, k3, k4, k5, k6, k7⟩ := s47g hG' im lm hR
  refine ⟨im2, ?_, k2, k3, k4⟩
  unfold J_90_259
  rw [k1, zBd_s]
  simp (disch := omega) only [nn_mull, nn_mulr, nn_addl, nn_addr, nn_add, nn_mul, tn_nn, tn_l, inb_nn, inb_l, zCk_t, ite_self, zBd_s]
  rw [(k6 p hp).1]
theorem Dx_an1 {R : Nat → Int32} (hG : GD R) (h1 : R 0 = 1) (hE : rE R < 60) {p : Nat} (hp : p < rN R) (hat : atp (isqB R) (qaB R) (rN R) 0 = some p) {r : Int32} (hr : r = 0 ∨ r = 1) : DxM (m_90 r) R (sc (an1 R p r) p) (an1 R p r) := by
  intro im lm hR
  have h6 := hG.1.2
  have hG' := GD_an1 hG h1 hE hp hr
  obtain ⟨hc, hc2, _⟩ := cl_e hG (Or.inl h1)
  obtain ⟨im2, k1, k2, k3, k4, k5, k6, k7⟩ := s47g hG im lm hR
  obtain ⟨im3, a1, a2, a3⟩ := s64w hG im2 lm k3 (fun q hq => (k6 q hq).1)
  have h182 : im3 182 0 = nn p := a3 0 p hat
  have h171 : im3 171 = R := (a2 171 (by decide)).trans k3
  obtain ⟨im4, b1, b2, b3, b4⟩ := s89 hG.2.1.1 hE (nn p) (if R 14 = 0 then 0 else 1) (R 2) (nn (stA R)) r im3 lm h171
  have hv : (100 * (R 2 / 5 + 1) : Int32) = nn (valC (clu R)) := by rw [hc2]; exact val_e _ hc
  have ham : (if (if R 14 = 0 then (0 : Int32) else 1) = 0 then ((100 * ((R 2 / 5) + 1)) : Int32) else ((((100 * ((R 2 / 5) + 1)) : Int32) * (R 8)) / 100)) = nn (stA R) := by
    rw [hv]
    unfold stA
    by_cases g : R 14 = 0
    · rw [if_pos g, if_pos g, if_pos rfl]
    · obtain ⟨_, _, ⟨s, hs, h8⟩, _⟩ := hG.2.2.2.2.2.2.1
      have hvl : valC (clu R) ≤ 500 := by unfold valC; omega
      have hml : valC (clu R) * s ≤ 500 * 100 := Nat.mul_le_mul hvl hs
      rw [if_neg g, if_neg g, if_neg (by decide), h8, tn_nn _ (by omega), nn_mul, show nn (valC (clu R) * s) / 100 = nn (valC (clu R) * s / 100) from div_l _ 100 (by omega) (by decide)]
  have e14 : entR R (nn p) (if R 14 = 0 then 0 else 1) (R 2) (nn (stA R)) r 14 = R 14 := (entR_e R (nn p) _ _ _ _).2.2.2.2.2.2 14 (by omega) (by omega)
  have hrow : (if r = 1 then (zeU2 (zeU2 (zeU2 im4 171 14 ((im4 171 14) ||| (1 <<< (nn p &&& 31)))) 171 0 0) 171 2 (-1)) else (zeU2 im4 171 14 ((im4 171 14) ||| (1 <<< (nn p &&& 31))))) 171 = an1 R p r := by
    rw [b3, e14]
    unfold an1 ansB
    by_cases g : r = 1
    · rw [if_pos g, if_pos g, if_pos g]
      simp only [u2r, b3]
    · rw [if_neg g, if_neg g, if_neg g]
      rw [u2r, b3]
      funext j
      rw [u1e _ 2, u1e _ 0]
      obtain ⟨_, _, _, _, _, _, uo⟩ := entR_e R (nn p) (if R 14 = 0 then 0 else 1) (R 2) (nn (stA R)) r
      by_cases g2 : j = 2
      · rw [if_pos g2, g2, u1_n _ _ _ _ (by decide), uo 2 (by omega) (by omega)]
      · rw [if_neg g2]
        by_cases g0 : j = 0
        · rw [if_pos g0, g0, u1_n _ _ _ _ (by decide), uo 0 (by omega) (by omega)]
        · rw [if_neg g0]
  have hfm : FM im4 (if r = 1 then (zeU2 (zeU2 (zeU2 im4 171 14 ((im4 171 14) ||| (1 <<< (nn p &&& 31)))) 171 0 0) 171 2 (-1)) else (zeU2 im4 171 14 ((im4 171 14) ||| (1 <<< (nn p &&& 31))))) := by
    by_cases g : r = 1
    · rw [if_pos g]; exact FM_t (FM_t (FM_171 _ _ _) (FM_171 _ _ _)) (FM_171 _ _ _)
    · rw [if_neg g]; exact FM_171 _ _ _
  obtain ⟨im5, c1, c2, c3, c4⟩ := s90_259 hG' p (by omega) _ lm hrow
  refine ⟨im5, ?_, FM_t k2 (FM_t (FM_t (fun a j h1 h2 h3 h4 => by rw [a2 a (by omega)]) b2) (FM_t hfm c2)), c3, ?_⟩
  · unfold m_90 J_90_24 J_90_55 J_90_77 J_90_124
    rw [k1, zBd_s, k3, if_pos h1, a1, zBd_s, if_pos h1, if_pos h1, h182, h171, ham, b1, zBd_s]
    exact c1
  · rw [c4]
    have : ∀ im0 : zI, (if r = 1 then (zeU2 (zeU2 (zeU2 im4 171 14 ((im4 171 14) ||| (1 <<< (nn p &&& 31)))) 171 0 0) 171 2 (-1)) else (zeU2 im4 171 14 ((im4 171 14) ||| (1 <<< (nn p &&& 31))))) 170 5 = im4 170 5 := fun _ => by
      by_cases g : r = 1
      · rw [if_pos g, u2n _ _ _ _ _ (by decide), u2n _ _ _ _ _ (by decide), u2n _ _ _ _ _ (by decide)]
      · rw [if_neg g, u2n _ _ _ _ _ (by decide)]
    rw [this im, b4, a2 170 (by decide), k4]
theorem Dx_an3 {R : Nat → Int32} (hG : GD R) (h3 : R 0 = 3) (hE : rE R < 60) {r : Int32} (hr : r = 0 ∨ r = 1) : DxM (m_90 r) R (sc (an3 R r) (ctl R)) (an3 R r) := by
  intro im lm hR
  have h6 := hG.1.2
  have hG' := GD_an3 hG h3 hE hr
  have hN := GD_ph0 hG (by rw [h3]; decide)
  obtain ⟨hk, hp⟩ := ctl_e hG hN
  obtain ⟨im2, k1, k2, k3, k4, k5, k6, k7⟩ := s47g hG im lm hR
  rw [if_neg (by omega)] at k5
  obtain ⟨im4, b1, b2, b3, b4⟩ := s89 hG.2.1.1 hE (nn (ctl R)) 2 (R 2) (R 12) r im2 lm k3
  have n1 : ¬ R 0 = 1 := by rw [h3]; decide
  have hrow : zeU2 (zeU2 im4 171 0 0) 171 2 (-1) 171 = an3 R r := by
    rw [u2r, u2r, b3]
    unfold an3 ansB
    funext j
    rw [u1e _ 2, u1e _ 0, u1e _ 2, u1e _ 0, u1e _ 14]
    by_cases g14 : j = 14
    · rw [if_neg (show ¬ j = 2 by omega), if_neg (show ¬ j = 0 by omega), if_neg (show ¬ j = 2 by omega), if_neg (show ¬ j = 0 by omega), if_pos g14, g14]
      exact (entR_e R (nn (ctl R)) _ _ _ _).2.2.2.2.2.2 14 (by omega) (by omega)
    · rw [if_neg g14]
  obtain ⟨im5, c1, c2, c3, c4⟩ := s90_259 hG' (ctl R) (by omega) _ lm hrow
  refine ⟨im5, ?_, FM_t k2 (FM_t b2 (FM_t (FM_t (FM_171 _ _ _) (FM_171 _ _ _)) c2)), c3, ?_⟩
  · unfold m_90 J_90_24 J_90_55
    rw [k1, zBd_s, k3, if_neg n1, if_neg n1, if_pos h3, k5, if_neg n1, if_pos h3, b1, zBd_s]
    exact c1
  · rw [c4, u2n _ _ _ _ _ (by decide), u2n _ _ _ _ _ (by decide), b4, k4]
theorem Dx_an5 {R : Nat → Int32} (hG : GD R) (h5 : R 0 = 5) (hE : rE R < 60) {a : Nat} (hF : F5 R a) {r : Int32} (hr : r = 0 ∨ r = 1) : DxM (m_90 r) R (sc (an5 R (nxt R a 0).toNatClampNeg a r) (nxt R a 0).toNatClampNeg) (an5 R (nxt R a 0).toNatClampNeg a r) := by
  intro im lm hR
  have h6 := hG.1.2
  obtain ⟨n1, n2, n3, n4⟩ := nxt_0 hF.1
  have hG' := GD_an5 (a := a) hG h5 hE n1 n2 hr
  obtain ⟨hFa, hpt⟩ := F5a_an5 hG hF hE r
  have hpz : ∀ i, rN R ≤ i → bt (R 13) i = false := fun i hi => (hG.2.2.2.2.2.2.2.2.2.2.1 i hi).1
  obtain ⟨im2, k1, k2, k3, k4, k5, k6, k7⟩ := s47g hG im lm hR
  have h88 := s88w hG.1.1 h6 hpz hF.2 im2 lm k3
  rw [n4] at h88
  generalize (nxt R a 0).toNatClampNeg = p at n1 n2 n3 hG' hFa hpt h88
  obtain ⟨e5, q0, q1, q2, q3, q4, e0, e2, e14, uo⟩ := ansB_e R p 3 (-1) (R (22 + p)) r (R 14 ||| (1 <<< (nn p &&& 31))) (if a + 1 < cntN (ptB R) 6 then 5 else 6) (R 2)
  obtain ⟨im4, b1, b2, b3, b4⟩ := s89 hG.2.1.1 hE (nn p) 3 (-1) (R (22 + p)) r im2 lm k3
  have m1 : ¬ R 0 = 1 := by rw [h5]; decide
  have m3 : ¬ R 0 = 3 := by rw [h5]; decide
  have e14' : entR R (nn p) 3 (-1) (R (22 + p)) r 14 = R 14 := (entR_e R (nn p) _ _ _ _).2.2.2.2.2.2 14 (by omega) (by omega)
  -- the row with the answer's bit
  have hq : zeU2 im4 171 14 (R 14 ||| (1 <<< (nn p &&& 31))) 171 = zeU1 (entR R (nn p) 3 (-1) (R (22 + p)) r) 14 (R 14 ||| (1 <<< (nn p &&& 31))) := by rw [u2r, b3]
  generalize hQ : zeU1 (entR R (nn p) 3 (-1) (R (22 + p)) r) 14 (R 14 ||| (1 <<< (nn p &&& 31))) = Q at hq
  have hQA : ∀ j, j ≠ 0 → j ≠ 2 → Q j = an5 R p a r j := fun j h1 h2 => by
    rw [← hQ]; unfold an5 ansB; rw [u1_n _ _ _ _ h2, u1_n _ _ _ _ h1]
  have hQN : rN Q = rN R := by unfold rN; rw [hQA 1 (by decide) (by decide)]; rw [show an5 R p a r 1 = _ from uo 1 (by omega) (by omega) (by omega) (by omega) (by omega)]
  have hQpt : ptB Q = ptB R := by rw [← hpt]; funext x; unfold ptB; rw [hQA 13 (by decide) (by decide)]
  have hQF : F5a Q (a + 1) := by
    intro x hx hb
    rw [hQA 13 (by decide) (by decide)] at hb
    rw [hQA 14 (by decide) (by decide), plc_c (sel := ptB (an5 R p a r)) (lt := flB (an5 R p a r)) (fun o _ => by unfold ptB; rw [hQA 13 (by decide) (by decide)]) (fun o ho => by unfold flB; rw [hQA _ (by omega) (by omega), hQA _ (by omega) (by omega)])]
    exact hFa x hx hb
  have h88' := s88w (R := Q) (by rw [hQN, hQA 1 (by decide) (by decide), show an5 R p a r 1 = _ from uo 1 (by omega) (by omega) (by omega) (by omega) (by omega)]; exact hG.1.1) (by omega) (fun i hi => by
    rw [hQA 13 (by decide) (by decide), show an5 R p a r 13 = _ from uo 13 (by omega) (by omega) (by omega) (by omega) (by omega)]; exact hpz i (by omega)) hQF _ lm hq
  have hph : (if (0 : Int32) ≤ nxt Q (a + 1) (-1) then (5 : Int32) else 6) = if a + 1 < cntN (ptB R) 6 then 5 else 6 := by
    by_cases g : a + 1 < cntN (ptB R) 6
    · obtain ⟨p', g1, g2, g3, g4⟩ := nxt_some (R := Q) (-1) (by rw [hQpt]; exact g)
      rw [if_pos g, g4, if_pos (Int32.not_lt.mp (nn_neg p' (by omega)))]
    · rw [if_neg g, nxt_none (R := Q) (-1) (by rw [hQpt]; omega), if_neg (by decide)]
  have hrow : zeU2 (zeU2 im4 171 14 (R 14 ||| (1 <<< (nn p &&& 31)))) 171 0 (if a + 1 < cntN (ptB R) 6 then 5 else 6) 171 = an5 R p a r := by
    rw [u2r, hq]
    funext j
    rw [u1e]
    by_cases g0 : j = 0
    · rw [if_pos g0, g0]; exact e0.symm
    · rw [if_neg g0]
      by_cases g2 : j = 2
      · rw [g2, show an5 R p a r 2 = _ from e2, ← hQ, u1_n _ _ _ _ (by decide)]
        exact (entR_e R (nn p) _ _ _ _).2.2.2.2.2.2 2 (by omega) (by omega)
      · exact hQA j g0 g2
  obtain ⟨im5, c1, c2, c3, c4⟩ := s90_259 hG' p n1 _ lm hrow
  refine ⟨im5, ?_, FM_t k2 (FM_t b2 (FM_t (FM_t (FM_171 _ _ _) (FM_171 _ _ _)) c2)), c3, ?_⟩
  · unfold m_90 J_90_24 J_90_55
    rw [k1, zBd_s, k3, if_neg m1, if_neg m1, if_neg m3, h88, zBd_s, if_neg m1, if_neg m3, k3]
    simp (disch := omega) only [nn_mull, nn_mulr, nn_addl, nn_addr, nn_add, nn_mul, tn_nn, tn_l, inb_nn, inb_l, zCk_t, ite_self, zBd_s]
    rw [b1, zBd_s, b3, e14', h88', zBd_s, hph]
    unfold J_90_258
    simp (disch := omega) only [nn_mull, nn_mulr, nn_addl, nn_addr, nn_add, nn_mul, tn_nn, tn_l, inb_nn, inb_l, zCk_t, ite_self, zBd_s]
    exact c1
  · rw [c4, u2n _ _ _ _ _ (by decide), u2n _ _ _ _ _ (by decide), b4, k4]
/-- the model's answer, checked -/
theorem ans_cases {R : Nat → Int32} (hG : GD R) {r : Int32} (hr : r = 0 ∨ r = 1) {a : Nat} (hF : R 0 = 5 → F5 R a) : (∃ w, cAns R = (-10000003, w) ∧ ¬ w = 0 ∧ aAns R r a = (-10000003, R, w)) ∨ (cAns R = (0, 0) ∧ ∃ x R', aAns R r a = (x, R', 0) ∧ GD R' ∧ okR x ∧ DxM (m_90 r) R x R') := by
  have hE := hG.2.1.2
  have hGA := GD_aAns hG hr hF
  unfold cAns
  unfold aAns at hGA ⊢
  by_cases g1 : R 0 = 1
  · rw [if_pos g1] at hGA ⊢
    rw [if_pos (Or.inl g1)]
    cases hat : atp (isqB R) (qaB R) (rN R) 0 with
    | none =>
      have : cntN (isqB R) (rN R) = 0 := by have := (atp_none _ _ _ _).mp hat; omega
      rw [if_pos ⟨g1, this⟩]
      exact Or.inl ⟨4, rfl, by decide, rfl⟩
    | some p =>
      have hp := (atp_some _ _ (qa_o R) _ _ _).mp hat
      have : ¬ cntN (isqB R) (rN R) = 0 := fun h => by
        have := (atp_none (isqB R) (qaB R) (rN R) 0).mpr (by omega)
        rw [this] at hat; cases hat
      rw [if_neg (fun h => this h.2)]
      rw [hat] at hGA
      simp only [fin7] at hGA ⊢
      by_cases g : rE R = 60
      · simp only [if_pos g]; exact Or.inl ⟨7, rfl, by decide, rfl⟩
      · simp only [if_neg g] at hGA ⊢
        exact Or.inr ⟨trivial, _, _, rfl, hGA, sc_ok hGA p, Dx_an1 hG g1 (by omega) hp.1 hat hr⟩
  rw [if_neg g1] at hGA ⊢
  by_cases g3 : R 0 = 3
  · rw [if_pos g3] at hGA ⊢
    rw [if_pos (Or.inr (Or.inl g3)), if_neg (fun h => g1 h.1)]
    simp only [fin7] at hGA ⊢
    by_cases g : rE R = 60
    · simp only [if_pos g]; exact Or.inl ⟨7, rfl, by decide, rfl⟩
    · simp only [if_neg g] at hGA ⊢
      exact Or.inr ⟨trivial, _, _, rfl, hGA, sc_ok hGA _, Dx_an3 hG g3 (by omega) hr⟩
  rw [if_neg g3] at hGA ⊢
  by_cases g5 : R 0 = 5
  · rw [if_pos g5] at hGA ⊢
    rw [if_pos (Or.inr (Or.inr g5)), if_neg (fun h => g1 h.1)]
    simp only [fin7] at hGA ⊢
    by_cases g : rE R = 60
    · simp only [if_pos g]; exact Or.inl ⟨7, rfl, by decide, rfl⟩
    · simp only [if_neg g] at hGA ⊢
      exact Or.inr ⟨trivial, _, _, rfl, hGA, sc_ok hGA _, Dx_an5 hG g5 (by omega) (hF g5) hr⟩
  · rw [if_neg g5]
    rw [if_neg (by rintro (h | h | h); exact g1 h; exact g3 h; exact g5 h)]
    exact Or.inl ⟨1, rfl, by decide, rfl⟩
theorem MoA_ans {R : Nat → Int32} (hG : GD R) (l : Int32) {a : Nat} (hF : R 0 = 5 → F5 R a) : MoA (m_91 l) R (aAns R (r01 l) a) := by
  have hm : m_91 l = cdM m_87 (m_90 (r01 l)) := by
    funext im lm
    unfold m_91 J_91_25 cdM
    rfl
  rw [hm]
  have hC := Ch_ans hG
  rcases ans_cases hG (r01_v l).1 hF with ⟨w, h1, h2, h3⟩ | ⟨h1, x, R', h2, h3, h4, h5⟩
  · rw [h1] at hC; rw [h3]; exact cdM_no (by decide) (okR_no (by simp)) hC
  · rw [h1] at hC; rw [h2]; exact cdM_ok (GD_z hG) h4 hC h5
