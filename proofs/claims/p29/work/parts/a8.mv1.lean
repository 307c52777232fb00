/-! MOVES: an open clue *-/
theorem qat_ex {R : Nat → Int32} {i : Nat} (hi : i < cntN (isqB R) (rN R)) : ∃ p, p < rN R ∧ isqB R p = true ∧ plc (isqB R) (qaB R) (rN R) p = i ∧ qat R i = nn p := by
  cases h : atp (isqB R) (qaB R) (rN R) i with
  | none => have := (atp_none _ _ _ _).mp h; omega
  | some p =>
    obtain ⟨h1, h2, h3⟩ := (atp_some _ _ (qa_o R) _ _ _).mp h
    exact ⟨p, h1, h2, h3, by unfold qat; rw [h]⟩
theorem qat_no {R : Nat → Int32} {i : Nat} (hi : cntN (isqB R) (rN R) ≤ i) : qat R i = -10000005 := by
  unfold qat; rw [(atp_none _ _ _ _).mpr hi]
theorem qQu_v {R : Nat → Int32} (h1 : R 0 = 1) (i : Nat) (hi : i < 2147483648) : qQu R (nn i) = qat R i := by
  unfold qQu
  rw [if_pos (by rw [show (0 : Int32) = nn 0 from rfl, nn_le _ _ (by omega) hi]; omega), if_pos h1, tn_nn _ hi]
theorem isq_w {R : Nat → Int32} {p : Nat} (h : isqB R p = true) : ¬ cnt R p < 0 ∧ bt (R 14) p = false ∧ orN (cnt R p) = cnt R p := by
  unfold isqB at h
  rw [Bool.and_eq_true, Bool.not_eq_true', Bool.not_eq_true', decide_eq_false_iff_not] at h
  refine ⟨h.1, h.2, ?_⟩
  unfold orN; rw [if_neg h.1]
theorem f191_251 {im : zI} {lm : zJ} {R : Nat → Int32} {q : Int32} (hG : GD R) (h1 : R 0 = 1) (h : QF im lm R q) (l6 l7 l8 : Int32) : ∀ d i n, i + d = cntN (isqB R) (rN R) → d < n → F_191_251 n l6 l7 l8 (nn i) im lm = J_191_367 l6 l7 l8 (if l8 = -10000005 then l8 else nn (cntN (isqB R) (rN R))) im lm := by
  have h6 := hG.1.2
  have hle := cntN_le (isqB R) (rN R)
  intro d
  induction d with
  | zero =>
    intro i n hi hn
    obtain ⟨m, rfl⟩ : ∃ m, n = m + 1 := ⟨n - 1, by omega⟩
    have : i = cntN (isqB R) (rN R) := by omega
    subst this
    unfold F_191_251
    rw [h.2.2.1, qQu_v h1 _ (by omega), qat_no (Nat.le_refl _), zBd_s, if_pos (show (-10000005 : Int32) < 0 by decide)]
  | succ d ih =>
    intro i n hi hn
    obtain ⟨m, rfl⟩ : ∃ m, n = m + 1 := ⟨n - 1, by omega⟩
    obtain ⟨p, p1, p2, p3, p4⟩ := qat_ex (R := R) (i := i) (by omega)
    obtain ⟨s1, s2, s3⟩ := isq_w p2
    obtain ⟨a0, a1, a2, a3, a4, a5, a6, a7, a8⟩ := q_pl hG p1
    rw [if_pos h1, s3] at a5
    have ih2 := ih (i + 1) m (by omega) (by omega)
    unfold F_191_251
    rw [h.2.2.1, qQu_v h1 _ (by omega), p4, zBd_s, if_neg (nn_neg p (by omega)), h.2.2.1, qQu_v h1 _ (by omega), p4, zBd_s, h.1, a5, zBd_s]
    by_cases g : i = 0
    · subst g
      rw [if_pos (show nn 0 = 0 from rfl)]
      unfold J_191_299
      have e1 : ¬ cnt R p < -1 := by
        rw [Int32.lt_iff_toInt_lt] at s1 ⊢
        have e0 : (0 : Int32).toInt = 0 := by decide +kernel
        have e1 : (-1 : Int32).toInt = -1 := by decide +kernel
        omega
      have e2 : ¬ cnt R p = -1 := by intro hh; rw [hh] at s1; exact s1 (by decide)
      rw [if_neg s1, if_neg e1, if_neg e2]
      exact ih2
    · have e1 : nn i - 1 = nn (i - 1) := nn_subr i 1 (by show 1 ≤ i; omega) (by omega)
      have e0 : ¬ nn i = 0 := by rw [show (0 : Int32) = nn 0 from rfl, nn_inj _ _ (by omega) (by omega)]; exact g
      obtain ⟨r, r1, r2, r3, r4⟩ := qat_ex (R := R) (i := i - 1) (by omega)
      obtain ⟨t1, t2, t3⟩ := isq_w r2
      obtain ⟨b0, b1, b2, b3, b4, b5, b6, b7, b8⟩ := q_pl hG r1
      rw [if_pos h1, t3] at b5
      have hb : qaB R r p = true := plc_cv (qa_o R) p1 p2 (by rw [p3, r3]; omega)
      unfold qaB at hb
      rw [decide_eq_true_eq] at hb
      rw [if_neg e0, e1, h.2.2.1, qQu_v h1 _ (by omega), r4, zBd_s, h.1, b5, zBd_s]
      unfold J_191_299
      have f1 : ¬ cnt R p < cnt R r := by
        rw [Int32.lt_iff_toInt_lt]
        rcases hb with hb | ⟨hb, _⟩
        · rw [Int32.lt_iff_toInt_lt] at hb; omega
        · rw [hb]; omega
      rw [if_neg s1, if_neg f1]
      by_cases g2 : cnt R p = cnt R r
      · have f2 : sc R r ≤ sc R p := by
          rcases hb with hb | ⟨_, hb | ⟨hb, _⟩⟩
          · rw [g2, Int32.lt_iff_toInt_lt] at hb; omega
          · rw [Int32.lt_iff_toInt_lt] at hb; rw [Int32.le_iff_toInt_le]; omega
          · rw [hb]; exact Int32.le_refl _
        rw [if_pos g2, e1, h.2.2.1, qQu_v h1 _ (by omega), r4, zBd_s, h.1, b0, zBd_s, h.1, a0, zBd_s, if_pos f2, show nn i + 1 = nn (i + 1) from nn_addr i 1]
        exact ih2
      · rw [if_neg g2, show nn i + 1 = nn (i + 1) from nn_addr i 1]
        exact ih2
theorem buz_v {R : Nat → Int32} (hG : GD R) (h1 : R 0 = 1) {p t : Nat} (hp : p < rN R) (ht : t < 100) : cBuz R (nn p) (nn t) = (if told R p t = true then (-10000005, 0) else (0, 0)) ∧ cBuz R (nn p) 100 = (-10000002, 0) := by
  have h6 := hG.1.2
  have hnc : ¬ (nn t < 0 ∨ (100 : Int32) ≤ nn t) := ix_not (n := 100) (N := 100) rfl (by omega) ht
  unfold cBuz
  constructor
  · rw [if_neg (ix_nb hG hp), if_neg hnc, if_pos h1, tn_nn _ (by omega), tn_nn _ (by omega)]
  · rw [if_neg (ix_nb hG hp), if_pos (Or.inr (Int32.le_refl _))]
theorem LI_buz {N : Nat} {R : Nat → Int32} (hG : GD R) (hL : LI N R) {p t : Nat} (hp : p < 6) (ht : t < 100) : LI N (buzR R p t) := by
  have u := buzR_e (R := R) hp ht
  have h60 := hG.2.1.2
  refine LI_c (u 1 (by omega)) (u 5 (by omega)) (fun k hk => u _ (by omega)) (fun h => ⟨?_, u 2 (by omega), u 14 (by omega)⟩) hL
  rw [← u 0 (by omega)]; exact h
theorem j191_367 {im : zI} {lm : zJ} {R : Nat → Int32} {q : Int32} {X : zX} {N : Nat} (hc : CI im lm R q X) (hL : LI N R) (h1 : R 0 = 1) {p t : Nat} (hp : p < rN R) (ht : t < 100) (hb : told R p t = true) (l8 s1 : Int32) (hs : l8 = s1) : LPo N im X (J_191_367 (nn p) (nn t) l8 s1 im lm) := by
  have hG := hc.1
  have hv := (buz_v hG h1 hp ht).1
  rw [if_pos hb] at hv
  obtain ⟨im1, lm1, a1, a2, a3⟩ := AD_e (AD_buz hG (nn p) (nn t)) (aBuz_no hv (by decide)) hc
  obtain ⟨im2, lm2, b1, b2, b3⟩ := AD_e (AD_buz a2.1 (nn p) 100) (aBuz_no (buz_v hG h1 hp ht).2 (by decide)) a2
  unfold J_191_367
  rw [if_pos hs, a1, zBd_s, if_pos rfl, b1, zBd_s, if_pos rfl]
  exact LP_t a3 (xrec_T _ _ _) (LP_i rfl b2 hL b3)
theorem mv_buz {im : zI} {lm : zJ} {R : Nat → Int32} {q : Int32} {X : zX} {N : Nat} (hc : CI im lm R q X) (hL : LI N R) (h1 : R 0 = 1) (l2 : Int32) {p : Nat} (hp : p < rN R) : LPo N im X (J_191_216 l2 (nn p) im lm) := by
  have hG := hc.1
  have h6 := hG.1.2
  unfold J_191_216 J_191_233
  obtain ⟨z, hz0, hz, ez⟩ : ∃ z, 0 < z ∧ z ≤ 100 ∧ (if (l2 &&& 64) = 0 then 30 else 100 : Int32) = nn z := by
    by_cases g : (l2 &&& 64) = 0
    · exact ⟨30, by decide, by decide, if_pos g⟩
    · exact ⟨100, by decide, by decide, if_neg g⟩
  obtain ⟨t, ht, e⟩ := low_ok (l2 >>> (2 &&& 31)) z hz0 (by omega)
  rw [ez, e im lm, zBd_s]
  have ht : t < 100 := by omega
  have hv := (buz_v hG h1 hp ht).1
  cases hb : told R p t with
  | true =>
    rw [hb, if_pos rfl] at hv
    obtain ⟨im1, lm1, a1, a2, a3⟩ := AD_e (AD_buz hG (nn p) (nn t)) (aBuz_no hv (by decide)) hc
    rw [a1, zBd_s]
    have hle := cntN_le (isqB R) (rN R)
    rw [show F_191_251 2000 (nn p) (nn t) (-10000005) 0 im1 lm1 = _ from f191_251 hG h1 (QF_of a2) (nn p) (nn t) (-10000005) (cntN (isqB R) (rN R)) 0 2000 (by omega) (by omega), if_pos rfl]
    exact LP_t a3 (xrec_T _ _ _) (j191_367 a2 hL h1 hp ht hb _ _ rfl)
  | false =>
    rw [hb, if_neg (by decide)] at hv
    obtain ⟨im1, lm1, a1, a2, a3⟩ := AD_e (AD_buz hG (nn p) (nn t)) (aBuz_ok (by omega) ht hv) hc
    have u := buzR_e (R := R) (show p < 6 by omega) ht
    have hb2 : told (buzR R p t) p t = true := by rw [buz_told R (by omega) ht (by omega) ht, decide_eq_true rfl, decide_eq_true rfl]; exact Bool.or_true _
    have hL2 := LI_buz hG hL (show p < 6 by omega) ht
    have h1' : buzR R p t 0 = 1 := by rw [u 0 (by omega)]; exact h1
    have eN : rN (buzR R p t) = rN R := by unfold rN; rw [u 1 (by omega)]
    rw [← eN] at a1 a2
    have hp' : p < rN (buzR R p t) := by rw [eN]; exact hp
    generalize buzR R p t = R' at a1 a2 hb2 hL2 h1' hp' eN
    have hle := cntN_le (isqB R') (rN R')
    rw [a1, zBd_s, show F_191_251 2000 (nn p) (nn t) (nn (cntN (isqB R') (rN R'))) 0 im1 lm1 = _ from f191_251 a2.1 h1' (QF_of a2) (nn p) (nn t) _ (cntN (isqB R') (rN R')) 0 2000 (by omega) (by omega)]
    refine LP_t a3 (xrec_T _ _ _) (j191_367 a2 hL2 h1' hp' ht hb2 _ _ ?_)
    rw [if_neg (nnm _ (by omega)).2]
theorem LI_clo {N : Nat} {R : Nat → Int32} (hL : LI N R) : LI N (cloR R) := by
  refine LI_nb hL ?_ ?_
  · unfold cloR; rw [u1_n _ _ _ _ (by decide), u1_n _ _ _ _ (by decide)]
  · unfold cloR; rw [u1_n _ _ _ _ (by decide), u1_s]; decide
theorem r01_0 (l : Int32) : (r01 l = 1) = ¬ l = 0 := propext (r01_v l).2.2
/-- an answer to an open clue -/
theorem mv_an1 {im : zI} {lm : zJ} {R : Nat → Int32} {q : Int32} {X : zX} {N : Nat} (hc : CI im lm R q X) (hL : LI N R) (h1 : R 0 = 1) (l1 : Int32) : LPo N im X (J_191_455 l1 (nn (cntN (ansE R (clu R)) (rE R))) im lm) := by
  have hG := hc.1
  have h6 := hG.1.2
  have h60 := hG.2.1.2
  have hq := QF_of hc
  have n5 : ¬ R 0 = 5 := by rw [h1]; decide
  obtain ⟨k1, k2, k3, k4⟩ := cl_e hG (Or.inl h1)
  have hpop := hL.2 (clu R) h1 k2 k1
  have h14 : (pop (R 14) = 0) = (R 14 = 0) := pop_0 (fun i hi => (hG.2.2.2.2.2.2.2.2.2.2.1 i (by omega)).2)
  unfold J_191_455
  rw [hq.2.2.1, show qQu R 0 = qat R 0 from qQu_v h1 0 (by omega), zBd_s, (QF_c hq).2.2.2.2.2.1, zBd_s, hG.2.1.1]
  unfold J_191_481
  generalize hs : (if (l1 &&& 64) = 0 then 1 else 0 : Int32) = s0
  have hs01 : s0 = 0 ∨ s0 = 1 := by
    rw [← hs]
    by_cases g : (l1 &&& 64) = 0
    · rw [if_pos g]; exact Or.inr rfl
    · rw [if_neg g]; exact Or.inl rfl
  by_cases g : 0 < cntN (isqB R) (rN R)
  · obtain ⟨p, p1, p2, p3, p4⟩ := qat_ex g
    have hat : atp (isqB R) (qaB R) (rN R) 0 = some p := (atp_some _ _ (qa_o R) _ _ _).mpr ⟨p1, p2, p3⟩
    have hA : aAns R (r01 s0) 0 = fin7 R p (an1 R p (r01 s0)) := by unfold aAns; rw [if_pos h1, hat]
    rw [p4]
    by_cases gE : rE R = 60
    · have hA2 : aAns R (r01 s0) 0 = (-10000003, R, 7) := by rw [hA]; unfold fin7; rw [if_pos gE]
      obtain ⟨im1, lm1, a1, a2, a3⟩ := AD_e (AD_ans hG s0 (a := 0) (fun h => absurd h n5)) hA2 hc
      rw [a1, zBd_s, if_neg (nn_neg p (by omega)), if_pos (show nn (rE R) = 60 by rw [gE]; rfl)]
      unfold J_191_503
      have e0 : (0 : Int32) ≤ nn p := by rw [show (0 : Int32) = nn 0 from rfl, nn_le _ _ (by omega) (by omega)]; omega
      rw [if_pos rfl, (QF_c (QF_of a2)).2.2.2.2.2.2.2.2.1, zBd_s, rsn_n _ _ (by decide), if_pos e0]
      unfold J_191_527
      rw [if_pos rfl]
      exact LP_i rfl a2 hL a3
    · have hA2 : aAns R (r01 s0) 0 = (sc (an1 R p (r01 s0)) p, an1 R p (r01 s0), 0) := by rw [hA]; unfold fin7; rw [if_neg gE]
      have hlt : rE R < 60 := by omega
      obtain ⟨s1, s2, s3⟩ := isq_w p2
      obtain ⟨im1, lm1, a1, a2, a3⟩ := AD_e (AD_ans hG s0 (a := 0) (fun h => absurd h n5)) hA2 hc
      have hL2 := LI_an1 hG hL hlt h1 (show p < 6 by omega) s2 (r01 s0)
      obtain ⟨e5, q0, q1, q2, q3, q4, e0, e2, e14, uo⟩ := ansB_e R p (if R 14 = 0 then 0 else 1) (R 2) (nn (stA R)) (r01 s0) (R 14 ||| (1 <<< (nn p &&& 31))) (if r01 s0 = 1 then 0 else R 0) (if r01 s0 = 1 then -1 else R 2)
      have hq2 := QF_of a2
      have hG2 := a2.1
      rw [a1, zBd_s, if_neg (nn_neg p (by omega)), if_neg (show ¬ nn (rE R) = 60 by rw [show (60 : Int32) = nn 60 from rfl, nn_inj _ _ (by omega) (by omega)]; exact gE)]
      have hR' : an1 R p (r01 s0) = ansB R p (if R 14 = 0 then 0 else 1) (R 2) (nn (stA R)) (r01 s0) (R 14 ||| (1 <<< (nn p &&& 31))) (if r01 s0 = 1 then 0 else R 0) (if r01 s0 = 1 then -1 else R 2) := rfl
      rw [← hR'] at e5 q0 q1 q2 q3 q4 e0 e2 e14 uo
      generalize an1 R p (r01 s0) = R' at a1 a2 hL2 hq2 hG2 e5 q0 q1 q2 q3 q4 e0 e2 e14 uo
      have eN : rN R' = rN R := by unfold rN; rw [uo 1 (by omega) (by omega) (by omega) (by omega) (by omega)]
      have eE : rE R' = rE R + 1 := by
        show (R' 5).toNatClampNeg = rE R + 1
        rw [e5, tn_nn _ (by omega)]
      obtain ⟨b0, b1, _⟩ := q_en hG2 (k := rE R) (by omega)
      rw [hq2.1, (q_pl hG2 (show p < rN R' by omega)).1, zBd_s, if_pos rfl, hq2.2.2.2.2.1, b0, zBd_s, if_pos q0, hq2.2.2.2.2.1, b1, q1, zBd_s]
      unfold J_191_577
      have e9 : (if R 14 = 0 then 0 else 1 : Int32) = (if nn (cntN (ansE R (clu R)) (rE R)) = 0 then 0 else 1) := by
        have hle := cntN_le (ansE R (clu R)) (rE R)
        have : (nn (cntN (ansE R (clu R)) (rE R)) = 0) = (R 14 = 0) := by
          rw [show (0 : Int32) = nn 0 from rfl, nn_inj _ _ (by omega) (by omega), hpop]; exact h14
        simp only [this]
      rw [if_pos e9, (QF_c hq2).1, zBd_s]
      unfold J_191_595
      have e10 : R' 0 = (if s0 = 0 then 1 else 0) := by
        rw [e0, h1]
        rcases hs01 with g | g <;> rw [g] <;> decide
      rw [if_pos e10]
      by_cases g0 : s0 = 0
      · rw [if_pos g0] at e10
        rw [if_pos g0, hq2.2.2.1, show qQu R' 0 = qat R' 0 from qQu_v e10 0 (by omega), zBd_s]
        have hne : ¬ qat R' 0 = nn p := by
          by_cases g4 : 0 < cntN (isqB R') (rN R')
          · obtain ⟨r, r1, r2, r3, r4⟩ := qat_ex g4
            rw [r4, nn_inj _ _ (by omega) (by omega)]
            intro h
            have hb := (isq_w r2).2.1
            rw [h, e14, b_set _ p (by omega), decide_eq_true rfl, Bool.or_true] at hb
            cases hb
          · rw [qat_no (by omega)]; exact fun h => (nnm p (by omega)).2 h.symm
        rw [if_neg hne]
        exact LP_i rfl a2 hL2 a3
      · rw [if_neg g0]
        exact LP_i rfl a2 hL2 a3
  · have hat : atp (isqB R) (qaB R) (rN R) 0 = none := (atp_none _ _ _ _).mpr (by omega)
    have hA : aAns R (r01 s0) 0 = (-10000003, R, 4) := by unfold aAns; rw [if_pos h1, hat]
    obtain ⟨im1, lm1, a1, a2, a3⟩ := AD_e (AD_ans hG s0 (a := 0) (fun h => absurd h n5)) hA hc
    rw [qat_no (by omega), a1, zBd_s, if_pos (show (-10000005 : Int32) < 0 by decide)]
    unfold J_191_503
    rw [if_pos rfl, (QF_c (QF_of a2)).2.2.2.2.2.2.2.2.1, zBd_s, rsn_n _ _ (by decide), if_neg (show ¬ (0 : Int32) ≤ -10000005 by decide)]
    unfold J_191_527
    rw [if_pos rfl]
    exact LP_i rfl a2 hL a3
/-- closing, or an answer -/
theorem mv_402 {im : zI} {lm : zJ} {R : Nat → Int32} {q : Int32} {X : zX} {N : Nat} (hc : CI im lm R q X) (hL : LI N R) (h1 : R 0 = 1) (l1 l2 : Int32) : LPo N im X (J_191_402 l1 l2 im lm) := by
  have hG := hc.1
  have hq := QF_of hc
  obtain ⟨k1, k2, k3, k4⟩ := cl_e hG (Or.inl h1)
  have hpop := hL.2 (clu R) h1 k2 k1
  unfold J_191_402
  rw [(QF_c hq).2.2.2.1, zBd_s, show orN (R 2) = nn (clu R) by rw [k2]; exact orN_n _ (by omega), hq.2.2.2.1, (q_cl R k1).2.2.2.1, zBd_s]
  have ha := mv_an1 hc hL h1 l1
  by_cases g1 : (l2 &&& 16) = 0
  · rw [if_pos g1]
    by_cases g2 : (l2 &&& 32) = 0
    · have e : aClo R = (nn (pop (R 14)), cloR R, 0) := by unfold aClo; rw [if_pos h1]
      obtain ⟨im1, lm1, a1, a2, a3⟩ := AD_e (AD_clo hG) e hc
      rw [if_pos g2, a1, zBd_s, if_pos (by rw [hpop]), (QF_c (QF_of a2)).1, zBd_s, if_pos (show cloR R 0 = 0 by unfold cloR; rw [u1_n _ _ _ _ (by decide), u1_s])]
      exact LP_i rfl a2 (LI_clo hL) a3
    · rw [if_neg g2]; exact ha
  · rw [if_neg g1]; exact ha
