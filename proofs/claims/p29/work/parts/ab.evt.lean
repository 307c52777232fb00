/-! THE LAW: its events *-/
theorem cell_ok {len : Nat} (hlen : len ≤ 100000) (j : Nat) (hj : j < 2147483648) (im : zI) (lm : zJ) : ∃ x, m_186 len (nn j) im lm = some (x, im, lm) := by
  have hk : (if Int32.ofNat len ≤ nn j then true else zeInb (nn j) len) = true := by
    by_cases g : Int32.ofNat len ≤ nn j
    · rw [if_pos g]
    · have g2 : ¬ nn len ≤ nn j := g
      rw [nn_le _ _ (by omega) hj] at g2
      rw [if_neg g]; exact inb_nn j len (by omega) hj
  unfold m_186
  rw [hk, zCk_t]
  exact ⟨_, rfl⟩
/-- the slot that is kept, and its digest -/
def LK (N : Nat) (X : zX) (kept : Int64) (first : Int32) : Prop := first = 0 ∨ first = 1 ∧ xT X 1 = 1 ∧ LI N (xS X 1) ∧ kept = DG (xS X 1)
theorem LK_c {N : Nat} {X X' : zX} {kept : Int64} {first : Int32} (hT : xT X' = xT X) (hS : xS X' = xS X) (h : LK N X kept first) : LK N X' kept first := by
  unfold LK at h ⊢
  rw [hT, hS]; exact h
/-- what stands behind an event holds -/
theorem j212_661 {im : zI} {lm : zJ} {R : Nat → Int32} {q : Int32} {X : zX} {len N gn : Nat} (hc : CI im lm R q X) (hL : LI N R) (hN : 0 < N) (hg : 154 ≤ gn) (K : Int64 → Int32 → Int32 → Int32 → Nat → zI → zJ → zRn) (l2 : Int64) (l4 l8 : Int32) (e : Nat) : ∃ im' lm', J_212_661 len K l2 l4 (nn N) (nn e) l8 1 gn im lm = K l2 l4 (nn N) (nn (e + 1)) (gn + 4) im' lm' ∧ CI im' lm' R q X := by
  have hG := hc.1
  have h6 := hG.1.2
  have hN2 : 0 < rN R := by rw [hL.1]; exact hN
  obtain ⟨im1, lm1, a1, a2, _⟩ := m_194_v hc hN2 hg
  have hq := QF_of a2
  obtain ⟨p, hp, ep⟩ := low_ok l8 N hN (by rw [← hL.1]; omega)
  refine ⟨im1, lm1, ?_, a2⟩
  have z : ¬ (1 : Int32) = 0 := by decide
  unfold J_212_661
  rw [if_neg z, a1, zBn_s, if_neg z, m_195_v hG hq, zBp_s, if_neg z, m_196_v hG hq, zBp_s, if_neg z, ep im1 lm1, zBp_s, m_197_v hG hq p (by rw [hL.1]; exact hp), zBp_s, if_neg z, show nn e + 1 = nn (e + 1) from nn_addr e 1]
theorem sc_cor {R : Nat → Int32} (hE : rE R < 60) {p : Nat} (hp : p < 6) (v : Int32) : sc (entR R (nn p) 4 (-1) v (-1)) p = sc R p + v := by
  obtain ⟨e5, q0, q1, q2, q3, q4, uo⟩ := entR_e R (nn p) 4 (-1) v (-1)
  generalize entR R (nn p) 4 (-1) v (-1) = R' at e5 q0 q1 q2 q3 q4 uo
  have eE : rE R' = rE R + 1 := by
    show (R' 5).toNatClampNeg = rE R + 1
    rw [e5, tn_nn _ (by omega)]
  have ag : agK R R' (rE R) := fun j h1 h2 => uo j (by omega) (by omega)
  have ep : eP R' (rE R) = p := by unfold eP; rw [q0, tn_nn _ (by omega)]
  have hv : ¬ vd R' (rE R) = true := fun h => by
    have := ((vd_iff R' (rE R)).mp h).1
    rw [q1] at this; exact absurd this (by decide)
  have ha : ∀ x, amS R' (rE R) x = v := by
    intro x
    unfold amS lim
    rw [if_neg hv, q1, q3, if_neg (show ¬ (4 : Int32) = 2 by decide), if_neg (show ¬ (4 : Int32) = 3 by decide), if_pos (Int32.le_refl _)]
  unfold sc
  rw [eE]
  show zeU1 (zsc R' (rE R)) (eP R' (rE R)) (zsc R' (rE R) (eP R' (rE R)) + dlt (R' (60 + 5 * rE R + 4)) (amS R' (rE R) (zsc R' (rE R) (eP R' (rE R))))) p = _
  rw [ha, ep, u1_s, q4, zsc_c ag]
  rfl
theorem cor_v {R : Nat → Int32} (hG : GD R) {p w : Nat} (hp : p < rN R) (hw : w < 2001) : aCor R (nn p) (nn w - 1000) = (if rE R = 60 then (-10000003, R, 7) else (sc R p + (nn w - 1000), entR R (nn p) 4 (-1) (nn w - 1000) (-1), 0)) ∧ aCor R (nn p) 10001 = (-10000002, R, 0) := by
  have h6 := hG.1.2
  have h60 := hG.2.1.2
  have e1 : (nn w - 1000).toInt = (w : Int) - 1000 := by
    have e : (1000 : Int32).toInt = 1000 := by decide +kernel
    rw [ti_sub _ _ (by rw [ti_nn _ (by omega), e]; omega) (by rw [ti_nn _ (by omega), e]; omega), ti_nn _ (by omega), e]
  have g1 : ¬ nn w - 1000 < -10000 := by
    rw [Int32.lt_iff_toInt_lt, e1]
    have e : (-10000 : Int32).toInt = -10000 := by decide +kernel
    omega
  have g2 : nn w - 1000 ≤ 10000 := by
    rw [Int32.le_iff_toInt_le, e1]
    have e : (10000 : Int32).toInt = 10000 := by decide +kernel
    omega
  unfold aCor
  constructor
  · rw [if_neg (ix_nb hG hp), if_neg g1, if_pos g2, tn_nn _ (by omega)]
    by_cases g : rE R = 60
    · rw [if_pos g, if_pos g]
    · rw [if_neg g, if_neg g, sc_cor (by omega) (by omega)]
  · rw [if_neg (ix_nb hG hp), if_neg (by decide), if_neg (by decide)]
theorem ev_cor {im : zI} {lm : zJ} {R : Nat → Int32} {q : Int32} {X : zX} {len N gn : Nat} (hc : CI im lm R q X) (hL : LI N R) (K : Int64 → Int32 → Int32 → Int32 → Nat → zI → zJ → zRn) (l2 : Int64) (l4 l5 l6 l8 : Int32) {p w : Nat} (hp : p < rN R) (hw : w < 2001) : ∃ im' lm' R' q' X', J_212_329 len K l2 l4 l5 l6 l8 (nn p) (sc R p) (nn w - 1000) gn (if nn (rE R) = 60 then 1 else 0) im lm = J_212_661 len K l2 l4 l5 l6 l8 1 gn im' lm' ∧ CI im' lm' R' q' X' ∧ LI N R' ∧ xT X' = xT X ∧ xS X' = xS X := by
  have hG := hc.1
  have h60 := hG.2.1.2
  obtain ⟨v1, v2⟩ := cor_v hG hp hw
  have e60 : (nn (rE R) = 60) = (rE R = 60) := by rw [show (60 : Int32) = nn 60 from rfl]; exact nn_inj _ _ (by omega) (by omega)
  unfold J_212_329
  by_cases g : rE R = 60
  · rw [if_pos g] at v1
    obtain ⟨im1, lm1, a1, a2, a3⟩ := AD_e (AD_cor hG (nn p) (nn w - 1000)) v1 hc
    refine ⟨im1, lm1, R, _, _, ?_, a2, hL, (xrec_T _ _ _).1, (xrec_T _ _ _).2⟩
    rw [a1, zBp_s, if_pos (show nn (rE R) = 60 by rw [e60]; exact g), if_neg (show ¬ (1 : Int32) = 0 by decide), if_pos rfl]
  · rw [if_neg g] at v1
    obtain ⟨im1, lm1, a1, a2, a3⟩ := AD_e (AD_cor hG (nn p) (nn w - 1000)) v1 hc
    have eN : rN (entR R (nn p) 4 (-1) (nn w - 1000) (-1)) = rN R := by
      obtain ⟨e5, q0, q1, q2, q3, q4, uo⟩ := entR_e R (nn p) 4 (-1) (nn w - 1000) (-1)
      unfold rN; rw [uo 1 (by omega) (by omega)]
    have v3 := (cor_v a2.1 (show p < rN (entR R (nn p) 4 (-1) (nn w - 1000) (-1)) by rw [eN]; exact hp) hw).2
    obtain ⟨im2, lm2, b1, b2, b3⟩ := AD_e (AD_cor a2.1 (nn p) 10001) v3 a2
    refine ⟨im2, lm2, _, _, _, ?_, b2, LI_cor hG hL (by omega) _ _, (xrec_T _ _ _).1.trans (xrec_T _ _ _).1, (xrec_T _ _ _).2.trans (xrec_T _ _ _).2⟩
    rw [a1, zBp_s, if_neg (show ¬ nn (rE R) = 60 by rw [e60]; exact g), if_pos rfl, if_pos rfl, b1, zBp_s, if_pos rfl]
theorem set_v {R : Nat → Int32} {k z : Nat} (hk : k < 3) (hz : z ≤ 30) : aSet R (nn k) (nn z) = (R (6 + k), zeU1 R (6 + k) (nn z), 0) := by
  have g1 : nn z ≤ (if nn k = 2 then 100 else 30 : Int32) := by
    by_cases g : nn k = 2
    · rw [if_pos g, show (100 : Int32) = nn 100 from rfl, nn_le _ _ (by omega) (by omega)]; omega
    · rw [if_neg g, show (30 : Int32) = nn 30 from rfl, nn_le _ _ (by omega) (by omega)]; exact hz
  unfold aSet
  rw [if_neg (nn_neg k (by omega)), if_pos (by rw [show (3 : Int32) = nn 3 from rfl, nn_lt _ _ (by omega) (by omega)]; exact hk), if_neg (nn_neg z (by omega)), if_pos g1, tn_nn k (by omega)]
theorem set_no (R : Nat → Int32) : aSet R 3 0 = (-10000001, R, 0) ∧ aSet R 0 31 = (-10000002, R, 0) := by
  unfold aSet
  constructor
  · rw [if_neg (by decide), if_neg (by decide)]
  · rw [if_neg (by decide), if_pos (by decide), if_neg (by decide), if_neg (by decide)]
theorem ev_set {im : zI} {lm : zJ} {R : Nat → Int32} {q : Int32} {X : zX} {len N gn : Nat} (hc : CI im lm R q X) (hL : LI N R) (K : Int64 → Int32 → Int32 → Int32 → Nat → zI → zJ → zRn) (l2 : Int64) (l4 l5 l6 v2 : Int32) {k z : Nat} (hk : k < 3) (hz : z ≤ 30) : ∃ im' lm' R' q' X', (zBp gn (m_36 (nn k) (nn z) im lm) fun v11 im11 lm11 =>
              if v11 = R (6 + k) then
                zBp gn (m_36 3 0 im11 lm11) fun v12 im12 lm12 =>
                if v12 = (-10000001) then
                  zBp gn (m_36 0 31 im12 lm12) fun v13 im13 lm13 =>
                  J_212_661 len K l2 l4 l5 l6 v2 (if v13 = (-10000002) then 1 else 0) gn im13 lm13
                else
                  J_212_661 len K l2 l4 l5 l6 v2 0 gn im12 lm12
              else
                J_212_661 len K l2 l4 l5 l6 v2 0 gn im11 lm11) = J_212_661 len K l2 l4 l5 l6 v2 1 gn im' lm' ∧ CI im' lm' R' q' X' ∧ LI N R' ∧ xT X' = xT X ∧ xS X' = xS X := by
  have hG := hc.1
  obtain ⟨im1, lm1, a1, a2, a3⟩ := AD_e (AD_set hG (nn k) (nn z)) (set_v hk hz) hc
  obtain ⟨im2, lm2, b1, b2, b3⟩ := AD_e (AD_set a2.1 3 0) (set_no _).1 a2
  obtain ⟨im3, lm3, c1, c2, c3⟩ := AD_e (AD_set b2.1 0 31) (set_no _).2 b2
  refine ⟨im3, lm3, _, _, _, ?_, c2, ?_, ((xrec_T _ _ _).1.trans (xrec_T _ _ _).1).trans (xrec_T _ _ _).1, ((xrec_T _ _ _).2.trans (xrec_T _ _ _).2).trans (xrec_T _ _ _).2⟩
  · rw [a1, zBp_s, if_pos rfl, b1, zBp_s, if_pos rfl, c1, zBp_s, if_pos rfl]
  · exact LI_c (u1_n _ _ _ _ (by omega)) (u1_n _ _ _ _ (by omega)) (fun j _ => u1_n _ _ _ _ (by omega)) (fun h => ⟨by rw [u1_n _ _ _ _ (by omega)] at h; exact h, u1_n _ _ _ _ (by omega), u1_n _ _ _ _ (by omega)⟩) hL
theorem ev_keep {im : zI} {lm : zJ} {R : Nat → Int32} {q : Int32} {X : zX} {len N gn : Nat} (hc : CI im lm R q X) (hL : LI N R) (K : Int64 → Int32 → Int32 → Int32 → Nat → zI → zJ → zRn) (l5 l6 l8 : Int32) : ∃ im' lm' X' k', J_212_541 len K l5 l6 l8 gn im lm = J_212_661 len K k' 1 l5 l6 l8 1 gn im' lm' ∧ CI im' lm' R q X' ∧ LK N X' k' 1 := by
  obtain ⟨im1, lm1, a1, a2, a3⟩ := C_keep hc 1 (by decide)
  have hq := QF_of a2
  refine ⟨im1, lm1, _, DG R, ?_, a2, Or.inr ⟨rfl, ?_, ?_, ?_⟩⟩
  · unfold J_212_541
    rw [show m_149 1 im lm = some (R 5, im1, lm1) from a1, zBp_s, (QF_c hq).2.2.2.2.2.1, zBp_s, if_pos rfl]
    unfold J_212_559
    rw [m_192_v a2.1 hq, zBJ_s]
  · show zeU1 (xT X) 1 1 1 = 1
    exact u1_s _ _ _
  · show LI N (zeU1 (xS X) 1 R 1)
    rw [u1_s]; exact hL
  · show DG R = DG (zeU1 (xS X) 1 R 1)
    rw [u1_s]
theorem ev_rest {im : zI} {lm : zJ} {R : Nat → Int32} {q : Int32} {X : zX} {len N gn : Nat} {kept : Int64} (hc : CI im lm R q X) (hk : LK N X kept 1) (K : Int64 → Int32 → Int32 → Int32 → Nat → zI → zJ → zRn) (l4 l5 l6 v2 : Int32) : ∃ im' lm' R' X', (zBp gn (m_151 1 im lm) fun v14 im14 lm14 =>
                    zBp gn (m_177 5 im14 lm14) fun v15 im15 lm15 =>
                    if v14 = v15 then
                      zBJ gn (m_192  im15 lm15) fun v16 im16 lm16 =>
                      J_212_661 len K kept l4 l5 l6 v2 (if (lg_cmp v16 kept) = 0 then 1 else 0) gn im16 lm16
                    else
                      J_212_661 len K kept l4 l5 l6 v2 0 gn im15 lm15) = J_212_661 len K kept l4 l5 l6 v2 1 gn im' lm' ∧ CI im' lm' R' q X' ∧ LI N R' ∧ xT X' = xT X ∧ xS X' = xS X := by
  rcases hk with h | ⟨_, hT, hLS, hD⟩
  · exact absurd h (by decide)
  obtain ⟨im1, lm1, a1, a2, a3⟩ := C_rest hc 1 (by decide) hT
  have hq := QF_of a2
  refine ⟨im1, lm1, _, _, ?_, a2, hLS, rfl, rfl⟩
  rw [show m_151 1 im lm = some (xS X 1 5, im1, lm1) from a1, zBp_s, (QF_c hq).2.2.2.2.2.1, zBp_s, if_pos rfl, m_192_v a2.1 hq, zBJ_s, hD, if_pos (lg_z _)]
/-- those with a score above 0 -/
def abz (R : Nat → Int32) (p : Nat) : Bool := !decide (sc R p ≤ 0)
theorem pop_ptW {R : Nat → Int32} (h6 : rN R ≤ 6) : pop (ptW R (rN R)) = cntN (abz R) (rN R) := by
  have h := ptW_bit R (rN R) h6
  have hz : ∀ d, cntN (fun i => bt (ptW R (rN R)) i) (rN R + d) = cntN (abz R) (rN R) := by
    intro d
    induction d with
    | zero =>
      refine cntN_c (rN R) (fun k hk => ?_)
      rw [h k, decide_eq_true hk, Bool.true_and]; rfl
    | succ d ih =>
      show cntN (fun i => bt (ptW R (rN R)) i) (rN R + d) + (if bt (ptW R (rN R)) (rN R + d) = true then 1 else 0) = _
      rw [ih, h, decide_eq_false (by omega), Bool.false_and, if_neg (by decide)]; rfl
  have := hz (25 - rN R)
  rw [show rN R + (25 - rN R) = 25 by omega] at this
  exact this
theorem ev_beg {im : zI} {lm : zJ} {R : Nat → Int32} {q : Int32} {X : zX} {len N gn : Nat} (hc : CI im lm R q X) (hL : LI N R) (hN : 0 < N) (h0 : R 0 = 0) (K : Int64 → Int32 → Int32 → Int32 → Nat → zI → zJ → zRn) (l2 : Int64) (l4 l6 l8 : Int32) : ∀ d p n, p + d = rN R → d < n → ∃ im' lm' R' q' X', F_212_593 len K n l2 l4 (nn (rN R)) l6 l8 (nn (cntN (abz R) p)) (nn p) gn im lm = J_212_661 len K l2 l4 (nn (rN R)) l6 l8 1 gn im' lm' ∧ CI im' lm' R' q' X' ∧ LI N R' ∧ xT X' = xT X ∧ xS X' = xS X := by
  have hG := hc.1
  have h6 := hG.1.2
  have hq := QF_of hc
  intro d
  induction d with
  | zero =>
    intro p n hp hn
    obtain ⟨m, rfl⟩ : ∃ m, n = m + 1 := ⟨n - 1, by omega⟩
    have : p = rN R := by omega
    subst this
    have hA : aBeg R = (nn (pop (ptW R (rN R))), begR R, 0) := by unfold aBeg; rw [if_neg (by rw [hL.1]; omega), if_pos h0]
    obtain ⟨im1, lm1, a1, a2, a3⟩ := AD_e (AD_beg hG) hA hc
    obtain ⟨e0, e13, e14, e16, uo⟩ := begR_e h6
    have hle := cntN_le (abz R) (rN R)
    have hpp := pop_ptW h6
    have hz : (nn (cntN (abz R) (rN R)) = 0) = (ptW R (rN R) = 0) := by
      rw [show (0 : Int32) = nn 0 from rfl, nn_inj _ _ (by omega) (by omega), ← hpp]
      refine pop_0 (fun i hi => ?_)
      rw [ptW_bit R (rN R) h6, decide_eq_false (by omega), Bool.false_and]
    refine ⟨im1, lm1, _, _, _, ?_, a2, LI_nb hL (uo 1 (by omega) (by omega) (by omega) (by omega)) ?_, (xrec_T _ _ _).1, (xrec_T _ _ _).2⟩
    · unfold F_212_593
      rw [if_pos (Int32.le_refl _), a1, zBp_s, if_pos (by rw [hpp]), (QF_c (QF_of a2)).1, zBp_s]
      unfold J_212_651
      rw [if_pos (show begR R 0 = (if nn (cntN (abz R) (rN R)) = 0 then 6 else 4) by rw [e0]; simp only [hz])]
    · rw [e0]
      by_cases g : ptW R (rN R) = 0
      · rw [if_pos g]; decide
      · rw [if_neg g]; decide
  | succ d ih =>
    intro p n hp hn
    obtain ⟨m, rfl⟩ : ∃ m, n = m + 1 := ⟨n - 1, by omega⟩
    have hpN : p < rN R := by omega
    obtain ⟨im1, lm1, R1, q1, X1, a1, a2⟩ := ih (p + 1) m (by omega) (by omega)
    refine ⟨im1, lm1, R1, q1, X1, ?_, a2⟩
    have e : (if sc R p ≤ 0 then nn (cntN (abz R) p) + 0 else nn (cntN (abz R) p) + 1) = nn (cntN (abz R) (p + 1)) := by
      show _ = nn (cntN (abz R) p + (if (!decide (sc R p ≤ 0)) = true then 1 else 0))
      by_cases g : sc R p ≤ 0
      · rw [if_pos g, decide_eq_true g, if_neg (by decide)]; exact nn_addr _ 0
      · rw [if_neg g, decide_eq_false g, if_pos (show (!false) = true from rfl)]; exact nn_addr _ 1
    unfold F_212_593
    rw [if_neg (show ¬ nn (rN R) ≤ nn p by rw [nn_le _ _ (by omega) (by omega)]; omega), hq.1, (q_pl hG hpN).1, zBp_s, e, show nn p + 1 = nn (p + 1) from nn_addr p 1]
    exact a1
