/-! MOVES: picking; wagers *-/
theorem pck_v {R : Nat → Int32} (hG : GD R) {w x : Nat} (hw : w < rN R) (hx : x < 25) : cPck R (nn w) (nn x) = if R 0 = 0 then (if w = ctl R then (if bt (R 10) x = true then (-10000003, 3) else (0, 0)) else (-10000003, 2)) else (-10000003, 1) := by
  have h6 := hG.1.2
  have hcn : ctl R < rN R := (ctl_e hG (by omega)).2
  have hnc : ¬ (nn x < 0 ∨ (25 : Int32) ≤ nn x) := ix_not (n := 25) (N := 25) rfl (by omega) hx
  have hkc : (nn w = nn (ctl R)) = (w = ctl R) := nn_inj _ _ (by omega) (by omega)
  unfold cPck
  rw [if_neg (ix_nb hG hw), if_neg hnc, tn_nn _ (by omega)]
  simp only [hkc]
theorem mv_pick {im : zI} {lm : zJ} {R : Nat → Int32} {q : Int32} {X : zX} {N : Nat} (hc : CI im lm R q X) (hL : LI N R) (h0 : R 0 = 0) (l1 : Int32) (p c : Nat) (hp : p < rN R) (hx : c < 25) : LPo N im X (J_191_56 l1 (nn (ctl R)) (nn p) (nn c) (if zb (bt (R 10) c = true) = 1 then 1 else 0) im lm) := by
  have hG := hc.1
  have h6 := hG.1.2
  have hN : 0 < rN R := by omega
  obtain ⟨_, hct⟩ := ctl_e hG hN
  obtain ⟨w, hw, ew⟩ : ∃ w, w < rN R ∧ (if (l1 &&& 48) = 0 then nn p else nn (ctl R)) = nn w := by
    by_cases g : (l1 &&& 48) = 0
    · exact ⟨p, hp, if_pos g⟩
    · exact ⟨ctl R, hct, if_neg g⟩
  unfold J_191_56
  rw [ew]
  unfold J_191_72
  have hv := pck_v hG hw hx
  rw [if_pos h0] at hv
  by_cases g1 : w = ctl R
  · rw [if_pos g1] at hv
    cases hb : bt (R 10) c with
    | true =>
      rw [hb, if_pos rfl] at hv
      obtain ⟨im1, lm1, a1, a2, a3⟩ := AD_e (AD_pck hG (nn w) (nn c)) (aPck_no hv (by decide)) hc
      rw [a1, zBd_s, if_pos (show nn w = nn (ctl R) by rw [g1]), zb_t rfl, if_pos rfl, if_neg (show ¬ (1 : Int32) = 0 by decide)]
      unfold J_191_105
      rw [if_neg (show ¬ (3 : Int32) ≤ 0 by decide), if_pos rfl, (QF_c (QF_of a2)).2.2.2.2.2.2.2.2.1, zBd_s, rsn_n _ _ (by decide), if_pos rfl]
      exact LP_i rfl a2 hL a3
    | false =>
      rw [hb, if_neg (by decide)] at hv
      obtain ⟨im1, lm1, a1, a2, a3⟩ := AD_e (AD_pck hG (nn w) (nn c)) (aPck_ok hx hv) hc
      have hQ := QF_of a2
      rw [a1, zBd_s, if_pos (show nn w = nn (ctl R) by rw [g1]), zb_f (by decide), if_neg (show ¬ (0 : Int32) = 1 by decide), if_pos rfl]
      unfold J_191_105
      obtain ⟨e0, e2, e3, e4, e10, e14, eb, uo⟩ := pckR_e R c
      have e0n : ¬ pckR R c 0 = 0 := by
        rw [e0]
        by_cases g : bt (R 11) c = true
        · rw [if_pos g]; decide
        · rw [if_neg g]; decide
      have eN : rN (pckR R c) = rN R := by unfold rN; rw [uo 1 (by decide) (by decide) (by decide) (by decide) (by decide) (by decide) (by decide)]
      rw [if_pos (show (0 : Int32) ≤ 0 from Int32.le_refl _), hQ.2.2.2.1, (q_cl _ hx).1, zBd_s, if_pos rfl, (QF_c hQ).2.2.2.1, zBd_s, if_pos (show orN (pckR R c 2) = nn c by rw [e2]; exact orN_n c (by omega))]
      have hv2 := pck_v a2.1 (w := w) (x := c) (by rw [eN]; exact hw) hx
      rw [if_neg e0n] at hv2
      obtain ⟨im2, lm2, b1, b2, b3⟩ := AD_e (AD_pck a2.1 (nn w) (nn c)) (aPck_no hv2 (by decide)) a2
      rw [b1, zBd_s, if_pos rfl, (QF_c (QF_of b2)).2.2.2.2.2.2.2.2.1, zBd_s, rsn_n _ _ (by decide), if_pos rfl]
      exact LP_t a3 (xrec_T _ _ _) (LP_i rfl b2 (LI_pck hG hL hx hb) b3)
  · rw [if_neg g1] at hv
    obtain ⟨im1, lm1, a1, a2, a3⟩ := AD_e (AD_pck hG (nn w) (nn c)) (aPck_no hv (by decide)) hc
    rw [a1, zBd_s, if_neg (show ¬ nn w = nn (ctl R) by rw [nn_inj _ _ (by omega) (by omega)]; exact g1)]
    unfold J_191_105
    rw [if_neg (show ¬ (2 : Int32) ≤ 0 by decide), if_pos rfl, (QF_c (QF_of a2)).2.2.2.2.2.2.2.2.1, zBd_s, rsn_n _ _ (by decide), if_pos rfl]
    exact LP_i rfl a2 hL a3
theorem wag_v (R : Nat → Int32) {v : Nat} (hv : v ≤ 100000) : aWag R (nn v) = if R 0 = 2 then (if nn v ≤ limW R then (limW R, wagR R (nn v), 0) else (-10000003, R, 5)) else (-10000003, R, 1) := by
  unfold aWag
  rw [if_neg (nn_neg v (by omega)), if_pos (amt_ok hv).2]
theorem LI_wag {N : Nat} {R : Nat → Int32} (hL : LI N R) (v : Int32) : LI N (wagR R v) := by
  obtain ⟨e0, e12, uo⟩ := wagR_e R v
  refine LI_nb hL (uo 1 (by decide) (by decide)) ?_
  rw [e0]; decide
theorem mv_wag {im : zI} {lm : zJ} {R : Nat → Int32} {q : Int32} {X : zX} {N : Nat} (hc : CI im lm R q X) (hL : LI N R) (h2 : R 0 = 2) (l2 : Int32) : LPo N im X (J_191_651 l2 (limW R) im lm) := by
  have hG := hc.1
  obtain ⟨v, hv, e⟩ := low_ok l2 1500 (by decide) (by decide)
  unfold J_191_651
  rw [show m_189 l2 1500 im lm = some (nn v, im, lm) from e im lm, zBd_s]
  have ha := wag_v R (show v ≤ 100000 by omega)
  rw [if_pos h2] at ha
  by_cases g : nn v ≤ limW R
  · rw [if_pos g] at ha
    obtain ⟨im1, lm1, a1, a2, a3⟩ := AD_e (AD_wag hG (nn v)) ha hc
    obtain ⟨e0, e12, uo⟩ := wagR_e R (nn v)
    rw [a1, zBd_s, if_pos g, if_pos rfl, (QF_c (QF_of a2)).1, zBd_s, if_pos e0]
    have hb := wag_v (wagR R (nn v)) (show 0 ≤ 100000 by omega)
    rw [if_neg (show ¬ wagR R (nn v) 0 = 2 by rw [e0]; decide)] at hb
    obtain ⟨im2, lm2, b1, b2, b3⟩ := AD_e (AD_wag a2.1 (nn 0)) hb a2
    rw [show m_98 0 im1 lm1 = _ from b1, zBd_s, if_pos rfl]
    exact LP_t a3 (xrec_T _ _ _) (LP_i rfl b2 (LI_wag hL _) b3)
  · rw [if_neg g] at ha
    obtain ⟨im1, lm1, a1, a2, a3⟩ := AD_e (AD_wag hG (nn v)) ha hc
    rw [a1, zBd_s, if_neg g, if_pos rfl, (QF_c (QF_of a2)).2.2.2.2.2.2.2.2.1, zBd_s, rsn_n _ _ (by decide), if_pos rfl]
    exact LP_i rfl a2 hL a3
theorem wf_v {R : Nat → Int32} (hG : GD R) {p v : Nat} (hp : p < rN R) (hv : v ≤ 100000) (h4 : R 0 = 4) : aWf R (nn p) (nn v) = if wnB R p = true then (if nn v ≤ R (16 + p) then (nn (cntN (wnB (wfI R p (nn v))) (rN R)), wfR R p (nn v), 0) else (-10000003, R, 5)) else (-10000003, R, 6) := by
  have h6 := hG.1.2
  unfold aWf
  rw [if_neg (ix_nb hG hp), if_neg (nn_neg v (by omega)), if_pos (amt_ok hv).2, if_pos h4, tn_nn _ (by omega)]
theorem mv_wf {im : zI} {lm : zJ} {R : Nat → Int32} {q : Int32} {X : zX} {N : Nat} (hc : CI im lm R q X) (hL : LI N R) (h4 : R 0 = 4) (p v : Nat) (hp : p < rN R) (hv : v ≤ 100000) : LPo N im X (zBd (m_110 (nn p) (nn v) im lm) fun v13 im13 lm13 =>
              if v13 = (-10000003) then
                zBd (m_177 11 im13 lm13) fun v14 im14 lm14 =>
                if v14 = 6 then
                  some (1, im14, lm14)
                else
                  zBd (m_177 11 im14 lm14) fun v15 im15 lm15 =>
                  some (if v15 = 5 then if 0 ≤ orN (R (22 + p)) then 0 else 1 else 0, im15, lm15)
              else
                if v13 < 0 then
                  some (0, im13, lm13)
                else
                  if 0 ≤ orN (R (22 + p)) then
                    some (0, im13, lm13)
                  else
                    zBd (m_156 (nn p) 6 im13 lm13) fun v16 im16 lm16 =>
                    if v16 = nn v then
                      zBd (m_177 0 im16 lm16) fun v17 im17 lm17 =>
                      J_191_961   v17 (if v13 = 0 then 5 else 4) im17 lm17
                    else
                      some (0, im16, lm16)) := by
  have hG := hc.1
  have h6 := hG.1.2
  have ha := wf_v hG hp hv h4
  have hw : wnB R p = true → ¬ (0 : Int32) ≤ orN (R (22 + p)) := by
    intro h
    have h : (bt (R 13) p && decide (R (22 + p) < 0)) = true := h
    rw [Bool.and_eq_true, decide_eq_true_eq] at h
    unfold orN
    rw [if_pos h.2]; decide
  by_cases g : wnB R p = true
  · rw [if_pos g] at ha
    by_cases g2 : nn v ≤ R (16 + p)
    · rw [if_pos g2] at ha
      obtain ⟨im1, lm1, a1, a2, a3⟩ := AD_e (AD_wf hG (nn p) (nn v)) ha hc
      have hk := cntN_le (wnB (wfI R p (nn v))) (rN R)
      obtain ⟨e0, ep, uo⟩ := wfR_e R p (nn v)
      generalize hcn : cntN (wnB (wfI R p (nn v))) (rN R) = k at a1 a2 e0 hk
      have eN : rN (wfR R p (nn v)) = rN R := by unfold rN; rw [uo 1 (by omega) (by omega)]
      have hq := QF_of a2
      have n3 : ¬ nn k = -10000003 := by
        have e3 : (-10000003 : Int32).toInt = -10000003 := by decide +kernel
        rw [ti_eq, ti_nn _ (by omega), e3]; omega
      rw [a1, zBd_s, if_neg n3, if_neg (nn_neg k (by omega)), if_neg (hw g), hq.1, (q_pl a2.1 (show p < rN (wfR R p (nn v)) by rw [eN]; exact hp)).2.2.2.2.2.2.1, zBd_s, if_pos (show orN (wfR R p (nn v) (22 + p)) = nn v by rw [ep]; exact orN_n v (by omega)), (QF_c hq).1, zBd_s]
      unfold J_191_961
      have hk0 : (nn k = 0) = (k = 0) := by rw [show (0 : Int32) = nn 0 from rfl]; exact nn_inj _ _ (by omega) (by omega)
      have e9 : wfR R p (nn v) 0 = if nn k = 0 then 5 else 4 := by rw [e0]; simp only [hk0]
      rw [if_pos e9]
      refine LP_i rfl a2 (LI_nb hL (uo 1 (by omega) (by omega)) ?_) a3
      rw [e9]
      by_cases g3 : nn k = 0
      · rw [if_pos g3]; decide
      · rw [if_neg g3]; decide
    · rw [if_neg g2] at ha
      obtain ⟨im1, lm1, a1, a2, a3⟩ := AD_e (AD_wf hG (nn p) (nn v)) ha hc
      rw [a1, zBd_s, if_pos rfl, (QF_c (QF_of a2)).2.2.2.2.2.2.2.2.1, zBd_s, rsn_n _ _ (by decide), if_neg (show ¬ (5 : Int32) = 6 by decide), (QF_c (QF_of a2)).2.2.2.2.2.2.2.2.1, zBd_s, rsn_n _ _ (by decide), if_pos rfl, if_neg (hw g)]
      exact LP_i rfl a2 hL a3
  · rw [if_neg g] at ha
    obtain ⟨im1, lm1, a1, a2, a3⟩ := AD_e (AD_wf hG (nn p) (nn v)) ha hc
    rw [a1, zBd_s, if_pos rfl, (QF_c (QF_of a2)).2.2.2.2.2.2.2.2.1, zBd_s, rsn_n _ _ (by decide), if_pos rfl]
    exact LP_i rfl a2 hL a3
/-- the quiz is over -/
theorem mv_over {im : zI} {lm : zJ} {R : Nat → Int32} {q : Int32} {X : zX} {N : Nat} (hc : CI im lm R q X) (hL : LI N R) (hN : 0 < rN R) (h6 : R 0 = 6) : LPo N im X (zBd (m_86 1 im lm) fun v20 im20 lm20 =>
                if v20 = (-10000003) then
                  zBd (m_93  im20 lm20) fun v21 im21 lm21 =>
                  if v21 = (-10000003) then
                    zBd (m_105  im21 lm21) fun v22 im22 lm22 =>
                    if v22 = (-10000003) then
                      zBd (m_177 11 im22 lm22) fun v23 im23 lm23 =>
                      some (if v23 = 1 then 1 else 0, im23, lm23)
                    else
                      some (0, im22, lm22)
                  else
                    some (0, im21, lm21)
                else
                  some (0, im20, lm20)) := by
  have hG := hc.1
  have n1 : ¬ R 0 = 1 := by rw [h6]; decide
  have n3 : ¬ R 0 = 3 := by rw [h6]; decide
  have n5 : ¬ R 0 = 5 := by rw [h6]; decide
  have n0 : ¬ R 0 = 0 := by rw [h6]; decide
  have e1 : aAns R (r01 1) 0 = (-10000003, R, 1) := by unfold aAns; rw [if_neg n1, if_neg n3, if_neg n5]
  obtain ⟨im1, lm1, a1, a2, a3⟩ := AD_e (AD_ans hG 1 (a := 0) (fun h => absurd h n5)) e1 hc
  have e2 : aClo R = (-10000003, R, 1) := by unfold aClo; rw [if_neg n1]
  obtain ⟨im2, lm2, b1, b2, b3⟩ := AD_e (AD_clo hG) e2 a2
  have e3 : aBeg R = (-10000003, R, 1) := by unfold aBeg; rw [if_neg (by omega), if_neg n0]
  obtain ⟨im3, lm3, c1, c2, c3⟩ := AD_e (AD_beg hG) e3 b2
  rw [a1, zBd_s, if_pos rfl, b1, zBd_s, if_pos rfl, c1, zBd_s, if_pos rfl, (QF_c (QF_of c2)).2.2.2.2.2.2.2.2.1, zBd_s, rsn_n _ _ (by decide), if_pos rfl]
  exact LP_t a3 (xrec_T _ _ _) (LP_t b3 (xrec_T _ _ _) (LP_i rfl c2 hL c3))
