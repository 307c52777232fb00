/-! MOVES: a wager's answer, the final round; all of them *-/
theorem mv_760 {im : zI} {lm : zJ} {R : Nat → Int32} {q : Int32} {X : zX} {N : Nat} (hc : CI im lm R q X) (hL : LI N R) (hN : 0 < rN R) (h3 : R 0 = 3) (s0 : Int32) : LPo N im X (J_191_760 (nn (ctl R)) (nn (rE R)) s0 im lm) := by
  have hG := hc.1
  have h6 := hG.1.2
  have h60 := hG.2.1.2
  have n1 : ¬ R 0 = 1 := by rw [h3]; decide
  have n5 : ¬ R 0 = 5 := by rw [h3]; decide
  obtain ⟨_, hct⟩ := ctl_e hG hN
  have hA : aAns R (r01 s0) 0 = fin7 R (ctl R) (an3 R (r01 s0)) := by unfold aAns; rw [if_neg n1, if_pos h3]
  unfold J_191_760
  by_cases gE : rE R = 60
  · have hA2 : aAns R (r01 s0) 0 = (-10000003, R, 7) := by rw [hA]; unfold fin7; rw [if_pos gE]
    obtain ⟨im1, lm1, a1, a2, a3⟩ := AD_e (AD_ans hG s0 (a := 0) (fun h => absurd h n5)) hA2 hc
    rw [a1, zBd_s, if_pos (show nn (rE R) = 60 by rw [gE]; rfl), if_pos rfl, (QF_c (QF_of a2)).2.2.2.2.2.2.2.2.1, zBd_s, rsn_n _ _ (by decide), if_pos rfl]
    exact LP_i rfl a2 hL a3
  · have hA2 : aAns R (r01 s0) 0 = (sc (an3 R (r01 s0)) (ctl R), an3 R (r01 s0), 0) := by rw [hA]; unfold fin7; rw [if_neg gE]
    have hlt : rE R < 60 := by omega
    obtain ⟨im1, lm1, a1, a2, a3⟩ := AD_e (AD_ans hG s0 (a := 0) (fun h => absurd h n5)) hA2 hc
    obtain ⟨e5, q0, q1, q2, q3, q4, e0, e2, e14, uo⟩ := ansB_e R (ctl R) 2 (R 2) (R 12) (r01 s0) (R 14) 0 (-1)
    have hR' : an3 R (r01 s0) = ansB R (ctl R) 2 (R 2) (R 12) (r01 s0) (R 14) 0 (-1) := rfl
    rw [← hR'] at e5 q0 q1 q2 q3 q4 e0 e2 e14 uo
    generalize an3 R (r01 s0) = R' at a1 a2 e5 q0 q1 q2 q3 q4 e0 e2 e14 uo
    have hq2 := QF_of a2
    have hG2 := a2.1
    have eN : rN R' = rN R := by unfold rN; rw [uo 1 (by omega) (by omega) (by omega) (by omega) (by omega)]
    have eE : rE R' = rE R + 1 := by
      show (R' 5).toNatClampNeg = rE R + 1
      rw [e5, tn_nn _ (by omega)]
    obtain ⟨b0, b1, _⟩ := q_en hG2 (k := rE R) (by omega)
    rw [a1, zBd_s, if_neg (show ¬ nn (rE R) = 60 by rw [show (60 : Int32) = nn 60 from rfl, nn_inj _ _ (by omega) (by omega)]; exact gE), hq2.1, (q_pl hG2 (show ctl R < rN R' by omega)).1, zBd_s, if_pos rfl, hq2.2.2.2.2.1, b0, zBd_s, if_pos q0, hq2.2.2.2.2.1, b1, zBd_s, if_pos q1, (QF_c hq2).1, zBd_s, if_pos e0]
    refine LP_i rfl a2 (LI_nb hL (uo 1 (by omega) (by omega) (by omega) (by omega) (by omega)) ?_) a3
    rw [e0]; decide
theorem mv_1004 {im : zI} {lm : zJ} {R : Nat → Int32} {q : Int32} {X : zX} {N : Nat} (hc : CI im lm R q X) (hL : LI N R) (h5 : R 0 = 5) (s0 : Int32) : LPo N im X (J_191_1004 (nxt R (aF R) (-10000005)) (nn (rE R)) s0 im lm) := by
  have hG := hc.1
  have h6 := hG.1.2
  have h60 := hG.2.1.2
  have n1 : ¬ R 0 = 1 := by rw [h5]; decide
  have n3 : ¬ R 0 = 3 := by rw [h5]; decide
  have hF := aF_5 hc h5
  generalize aF R = a at hF
  obtain ⟨x6, xb, xp, xn⟩ := nxt_0 (R := R) hF.1
  have hA : aAns R (r01 s0) a = fin7 R (nxt R a 0).toNatClampNeg (an5 R (nxt R a 0).toNatClampNeg a (r01 s0)) := by unfold aAns; rw [if_neg n1, if_neg n3, if_pos h5]
  rw [xn]
  generalize (nxt R a 0).toNatClampNeg = x at x6 xb xp hA
  have hxN := fin_pl hG xb
  unfold J_191_1004
  by_cases gE : rE R = 60
  · have hA2 : aAns R (r01 s0) a = (-10000003, R, 7) := by rw [hA]; unfold fin7; rw [if_pos gE]
    obtain ⟨im1, lm1, a1, a2, a3⟩ := AD_e (AD_ans hG s0 (a := a) (fun _ => hF)) hA2 hc
    rw [a1, zBd_s, if_pos (show nn (rE R) = 60 by rw [gE]; rfl), if_pos rfl]
    exact LP_i rfl a2 hL a3
  · have hA2 : aAns R (r01 s0) a = (sc (an5 R x a (r01 s0)) x, an5 R x a (r01 s0), 0) := by rw [hA]; unfold fin7; rw [if_neg gE]
    have hlt : rE R < 60 := by omega
    obtain ⟨im1, lm1, a1, a2, a3⟩ := AD_e (AD_ans hG s0 (a := a) (fun _ => hF)) hA2 hc
    obtain ⟨e5, q0, q1, q2, q3, q4, e0, e2, e14, uo⟩ := ansB_e R x 3 (-1) (R (22 + x)) (r01 s0) (R 14 ||| (1 <<< (nn x &&& 31))) (if a + 1 < cntN (ptB R) 6 then 5 else 6) (R 2)
    have hR' : an5 R x a (r01 s0) = ansB R x 3 (-1) (R (22 + x)) (r01 s0) (R 14 ||| (1 <<< (nn x &&& 31))) (if a + 1 < cntN (ptB R) 6 then 5 else 6) (R 2) := rfl
    rw [← hR'] at e5 q0 q1 q2 q3 q4 e0 e2 e14 uo
    generalize an5 R x a (r01 s0) = R' at a1 a2 e5 q0 q1 q2 q3 q4 e0 e2 e14 uo
    have hq2 := QF_of a2
    have hG2 := a2.1
    have eN : rN R' = rN R := by unfold rN; rw [uo 1 (by omega) (by omega) (by omega) (by omega) (by omega)]
    have eE : rE R' = rE R + 1 := by
      show (R' 5).toNatClampNeg = rE R + 1
      rw [e5, tn_nn _ (by omega)]
    obtain ⟨b0, b1, b2, b3, _⟩ := q_en hG2 (k := rE R) (by omega)
    have ew : R' (22 + x) = R (22 + x) := uo _ (by omega) (by omega) (by omega) (by omega) (by omega)
    have hw : ∃ w, w ≤ 100000 ∧ R (22 + x) = nn w := by
      rcases hG.2.2.2.2.2.2.2.2.2.2.2.2.1 x x6 with h | h
      · exact absurd h (hG.2.2.2.2.2.2.2.2.2.2.2.2.2.1 h5 x x6 xb)
      · exact h
    obtain ⟨w, hw1, hw2⟩ := hw
    have c14 : ¬ (if R' 0 = 5 then nxt R' (aF R') (-10000005) else -10000005) = nn x := by
      by_cases g5 : R' 0 = 5
      · rw [if_pos g5]
        have hF2 := aF_5 a2 g5
        obtain ⟨y6, yb, yp, yn⟩ := nxt_0 (R := R') hF2.1
        rw [yn, nn_inj _ _ (by omega) (by omega)]
        intro h
        rw [h] at yp yb
        have e13 : R' 13 = R 13 := uo 13 (by omega) (by omega) (by omega) (by omega) (by omega)
        have := (hF2.2 x x6 (by rw [e13]; exact xb)).mp (by rw [e14, b_set _ x (by omega), decide_eq_true rfl, Bool.or_true])
        omega
      · rw [if_neg g5]; exact fun h => (nnm x (by omega)).2 h.symm
    rw [a1, zBd_s, if_neg (show ¬ nn (rE R) = 60 by rw [show (60 : Int32) = nn 60 from rfl, nn_inj _ _ (by omega) (by omega)]; exact gE), hq2.1, (q_pl hG2 (show x < rN R' by omega)).1, zBd_s, if_pos rfl, hq2.2.2.2.2.1, b0, zBd_s, if_pos q0, hq2.2.2.2.2.1, b1, zBd_s, if_pos q1, hq2.2.2.2.2.1, b3, zBd_s, hq2.1, (q_pl hG2 (show x < rN R' by omega)).2.2.2.2.2.2.1, zBd_s, if_pos (show R' (60 + 5 * rE R + 3) = orN (R' (22 + x)) by rw [q3, ew, hw2]; exact (orN_n w (by omega)).symm), (QF_c hq2).2.2.2.2.2.2.2.2.2.1, zBd_s, if_neg c14]
    refine LP_i rfl a2 (LI_nb hL (uo 1 (by omega) (by omega) (by omega) (by omega) (by omega)) ?_) a3
    rw [e0]
    by_cases g : a + 1 < cntN (ptB R) 6
    · rw [if_pos g]; decide
    · rw [if_neg g]; decide
theorem m_191_v {im : zI} {lm : zJ} {R : Nat → Int32} {q : Int32} {X : zX} {N : Nat} (hc : CI im lm R q X) (hL : LI N R) (hN : 0 < N) (l1 l2 : Int32) : LPo N im X (m_191 l1 l2 im lm) := by
  have hG := hc.1
  have h6 := hG.1.2
  have hq := QF_of hc
  have hcs := QF_c hq
  have hNp : 0 < rN R := by rw [hL.1]; exact hN
  obtain ⟨p, hp, ep⟩ := low_ok l1 (rN R) hNp (by omega)
  obtain ⟨ph, hph6, hph⟩ := hG.2.2.2.1
  unfold m_191
  rw [hcs.2.1, zBd_s, hcs.1, zBd_s, hcs.2.2.2.2.1, zBd_s, if_neg (show ¬ rN R = 0 by omega), hG.1.1, ep im lm, zBd_s]
  by_cases h0 : R 0 = 0
  · obtain ⟨c, hcl, ec⟩ := low_ok l2 25 (by decide) (by decide)
    rw [if_pos h0, show m_189 l2 25 im lm = some (nn c, im, lm) from ec im lm, zBd_s, hq.2.2.2.1, (q_cl R hcl).2.2.1, zBd_s]
    exact mv_pick hc hL h0 l1 p c hp hcl
  rw [if_neg h0]
  by_cases h1 : R 0 = 1
  · rw [if_pos h1]
    have hb := mv_buz hc hL h1 l2 hp
    have ha := mv_402 hc hL h1 l1 l2
    by_cases g1 : (l2 &&& 3) = 0
    · rw [if_pos g1, hq.2.2.1, zBd_s]
      by_cases g2 : 0 ≤ qQu R 0
      · rw [if_pos g2]; exact ha
      · rw [if_neg g2]
        by_cases g3 : (l2 &&& 12) = 0
        · rw [if_pos g3]; exact ha
        · rw [if_neg g3]; exact hb
    · rw [if_neg g1]; exact hb
  rw [if_neg h1]
  by_cases h2 : R 0 = 2
  · obtain ⟨_, hct⟩ := ctl_e hG hNp
    have hw := mv_wag hc hL h2 l2
    unfold limW at hw
    rw [if_pos h2, hq.1, (q_pl hG hct).1, zBd_s]
    by_cases g : sc R (ctl R) ≤ 500
    · rw [if_pos g] at hw ⊢; exact hw
    · rw [if_neg g] at hw ⊢
      rw [hq.1, (q_pl hG hct).1, zBd_s]; exact hw
  rw [if_neg h2]
  by_cases h3 : R 0 = 3
  · rw [if_pos h3, hcs.2.2.2.2.2.1, zBd_s, hG.2.1.1]
    exact mv_760 hc hL hNp h3 _
  rw [if_neg h3]
  by_cases h4 : R 0 = 4
  · obtain ⟨v, hv, ev⟩ := low_ok l2 900 (by decide) (by decide)
    rw [if_pos h4, hq.1, (q_pl hG hp).2.2.2.2.2.2.1, zBd_s, show m_189 l2 900 im lm = some (nn v, im, lm) from ev im lm, zBd_s]
    exact mv_wf hc hL h4 p v hp (by omega)
  rw [if_neg h4]
  by_cases h5 : R 0 = 5
  · rw [if_pos h5, hcs.2.2.2.2.2.2.2.2.2.1, zBd_s, if_pos h5, hcs.2.2.2.2.2.1, zBd_s, hG.2.1.1]
    exact mv_1004 hc hL h5 _
  rw [if_neg h5]
  have h6' : R 0 = 6 := by
    have : ph = 0 ∨ ph = 1 ∨ ph = 2 ∨ ph = 3 ∨ ph = 4 ∨ ph = 5 ∨ ph = 6 := by omega
    rcases this with e | e | e | e | e | e | e <;> subst e
    · exact absurd hph h0
    · exact absurd hph h1
    · exact absurd hph h2
    · exact absurd hph h3
    · exact absurd hph h4
    · exact absurd hph h5
    · exact hph
  exact mv_over hc hL hNp h6'
