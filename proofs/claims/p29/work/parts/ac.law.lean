/-! THE LAW: its loop, and what stands ahead of it *-/
theorem f212_211 {len N : Nat} (hlen : len ≤ 100000) (hN : 0 < N) : ∀ d e n gn im lm R q X kept first, e + d = 44 → d < n → 154 ≤ gn → gn ≤ 154 + 5 * e → CI im lm R q X → LI N R → LK N X kept first → ∃ n' im' lm', F_212_211 len n kept first (nn N) (nn e) gn im lm = some ((1, n'), im', lm') ∧ 154 ≤ n' ∧ n' ≤ 374 := by
  intro d
  induction d with
  | zero =>
    intro e n gn im lm R q X kept first he hn h1 h2 hc hL hK
    obtain ⟨m, rfl⟩ : ∃ m, n = m + 1 := ⟨n - 1, by omega⟩
    have : e = 44 := by omega
    subst this
    refine ⟨gn, im, lm, ?_, h1, by omega⟩
    unfold F_212_211
    rw [if_pos (show (44 : Int32) ≤ nn 44 from Int32.le_refl _)]
  | succ d ih =>
    intro e n gn im lm R q X kept first he hn h1 h2 hc hL hK
    obtain ⟨m, rfl⟩ : ∃ m, n = m + 1 := ⟨n - 1, by omega⟩
    have hG := hc.1
    have h6 := hG.1.2
    have h60 := hG.2.1.2
    have hq := QF_of hc
    have hcs := QF_c hq
    have hNR := hL.1
    have fin : ∀ (im1 : zI) (lm1 : zJ) (R1 : Nat → Int32) (q1 : Int32) (X1 : zX) (kept1 : Int64) (first1 v2 : Int32) (gn1 : Nat), CI im1 lm1 R1 q1 X1 → LI N R1 → LK N X1 kept1 first1 → gn ≤ gn1 → gn1 ≤ gn + 1 → ∃ n' im' lm', J_212_661 len (F_212_211 len m) kept1 first1 (nn N) (nn e) v2 1 gn1 im1 lm1 = some ((1, n'), im', lm') ∧ 154 ≤ n' ∧ n' ≤ 374 := by
      intro im1 lm1 R1 q1 X1 kept1 first1 v2 gn1 g1 g2 g3 g4 g5
      obtain ⟨im2, lm2, a1, a2⟩ := j212_661 (len := len) g1 g2 hN (show 154 ≤ gn1 by omega) (F_212_211 len m) kept1 first1 v2 e
      rw [a1]
      exact ih (e + 1) m (gn1 + 4) im2 lm2 R1 q1 X1 kept1 first1 (by omega) (by omega) (by omega) (by omega) a2 g2 g3
    obtain ⟨v1, e1⟩ := cell_ok hlen (2 * e) (by omega) im lm
    obtain ⟨v2, e2⟩ := cell_ok hlen (2 * e + 1) (by omega) im lm
    obtain ⟨s, hs, e3⟩ := low_ok (v1 >>> (16 &&& 31)) 20 (by decide) (by decide)
    unfold F_212_211
    rw [if_neg (show ¬ (44 : Int32) ≤ nn e from nn_ge e 44 (by omega) (by omega)), show (2 : Int32) * nn e = nn (2 * e) from nn_mull 2 e, e1, zBp_s, show nn (2 * e) + 1 = nn (2 * e + 1) from nn_addr _ 1, e2, zBp_s, show m_189 (v1 >>> (16 &&& 31)) 20 im lm = some (nn s, im, lm) from e3 im lm, zBp_s]
    by_cases g14 : 14 ≤ s
    · have l14 : (14 : Int32) ≤ nn s := by rw [show (14 : Int32) = nn 14 from rfl, nn_le _ _ (by omega) (by omega)]; exact g14
      have q14 : (nn s = 14) = (s = 14) := by rw [show (14 : Int32) = nn 14 from rfl]; exact nn_inj _ _ (by omega) (by omega)
      have q17 : (nn s = 17) = (s = 17) := by rw [show (17 : Int32) = nn 17 from rfl]; exact nn_inj _ _ (by omega) (by omega)
      have q18 : (nn s = 18) = (s = 18) := by rw [show (18 : Int32) = nn 18 from rfl]; exact nn_inj _ _ (by omega) (by omega)
      have l17 : ((17 : Int32) ≤ nn s) = (17 ≤ s) := by rw [show (17 : Int32) = nn 17 from rfl]; exact nn_le _ _ (by omega) (by omega)
      rw [if_pos l14]
      by_cases s14 : s = 14
      · obtain ⟨p, hp, ep⟩ := low_ok v1 N hN (by omega)
        obtain ⟨w, hw, ew⟩ := low_ok v2 2001 (by decide) (by decide)
        have hpR : p < rN R := by rw [hNR]; exact hp
        rw [if_pos (show nn s = 14 by rw [q14]; exact s14), ep im lm, zBp_s, hq.1, (q_pl hG hpR).1, zBp_s, show m_189 v2 2001 im lm = some (nn w, im, lm) from ew im lm, zBp_s, hcs.2.2.2.2.2.1, zBp_s, hG.2.1.1]
        obtain ⟨im1, lm1, R1, q1, X1, a1, a2, a3, a4, a5⟩ := ev_cor (len := len) (gn := gn) hc hL (F_212_211 len m) kept first (nn N) (nn e) v2 hpR hw
        rw [a1]
        exact fin im1 lm1 R1 q1 X1 kept first v2 gn a2 a3 (LK_c a4 a5 hK) (by omega) (by omega)
      rw [if_neg (show ¬ nn s = 14 by rw [q14]; exact s14)]
      by_cases s17 : 17 ≤ s
      · rw [if_pos (show (17 : Int32) ≤ nn s by rw [l17]; exact s17)]
        by_cases s17e : s = 17
        · obtain ⟨k, hk, ek⟩ := low_ok v1 3 (by decide) (by decide)
          obtain ⟨z, hz, ez⟩ := low_ok v2 31 (by decide) (by decide)
          have e8 : m_177 (8 + nn k) im lm = some (R (6 + k), im, lm) := by
            obtain ⟨c0, c1, c2, c3, c4, c5, c6, c7, c8, c9, c10, _⟩ := c_v R q
            have : k = 0 ∨ k = 1 ∨ k = 2 := by omega
            rcases this with g | g | g <;> subst g
            · rw [show (8 : Int32) + nn 0 = 8 from by decide, hq.2.2.2.2.2.2 8 (by decide) (by decide), c8]
            · rw [show (8 : Int32) + nn 1 = 9 from by decide, hq.2.2.2.2.2.2 9 (by decide) (by decide), c9]
            · rw [show (8 : Int32) + nn 2 = 10 from by decide, hq.2.2.2.2.2.2 10 (by decide) (by decide), c10]
          rw [if_pos (show nn s = 17 by rw [q17]; exact s17e), show m_189 v1 3 im lm = some (nn k, im, lm) from ek im lm, zBp_s, e8, zBp_s, show m_189 v2 31 im lm = some (nn z, im, lm) from ez im lm, zBp_s]
          obtain ⟨im1, lm1, R1, q1, X1, a1, a2, a3, a4, a5⟩ := ev_set (len := len) (gn := gn) hc hL (F_212_211 len m) kept first (nn N) (nn e) v2 hk (show z ≤ 30 by omega)
          rw [a1]
          exact fin im1 lm1 R1 q1 X1 kept first v2 gn a2 a3 (LK_c a4 a5 hK) (by omega) (by omega)
        rw [if_neg (show ¬ nn s = 17 by rw [q17]; exact s17e)]
        by_cases s18 : s = 18
        · rw [if_pos (show nn s = 18 by rw [q18]; exact s18)]
          have hkeep : ∃ n' im' lm', J_212_541 len (F_212_211 len m) (nn N) (nn e) v2 gn im lm = some ((1, n'), im', lm') ∧ 154 ≤ n' ∧ n' ≤ 374 := by
            obtain ⟨im1, lm1, X1, k1, a1, a2, a3⟩ := ev_keep (len := len) (gn := gn) hc hL (F_212_211 len m) (nn N) (nn e) v2
            rw [a1]
            exact fin im1 lm1 R q X1 k1 1 v2 gn a2 hL a3 (by omega) (by omega)
          by_cases f0 : first = 0
          · rw [if_pos f0]; exact hkeep
          · rw [if_neg f0]
            have f1 : first = 1 := by
              rcases hK with h | h
              · exact absurd h f0
              · exact h.1
            by_cases gh : (v2 &&& 1) = 0
            · rw [if_pos gh]
              obtain ⟨im1, lm1, R1, X1, a1, a2, a3, a4, a5⟩ := ev_rest (len := len) (gn := gn) hc (f1 ▸ hK) (F_212_211 len m) first (nn N) (nn e) v2
              rw [a1]
              exact fin im1 lm1 R1 q X1 kept first v2 gn a2 a3 (LK_c a4 a5 hK) (by omega) (by omega)
            · rw [if_neg gh]; exact hkeep
        rw [if_neg (show ¬ nn s = 18 by rw [q18]; exact s18), hcs.1, zBp_s]
        by_cases h0 : R 0 = 0
        · rw [if_pos h0]
          by_cases gh : (v2 &&& 3) = 0
          · rw [if_pos gh]
            obtain ⟨im1, lm1, R1, q1, X1, a1, a2, a3, a4, a5⟩ := ev_beg (len := len) (gn := gn) hc hL hN h0 (F_212_211 len m) kept first (nn e) v2 (rN R) 0 2000 (by omega) (by omega)
            rw [hNR] at a1
            refine (show F_212_593 len (F_212_211 len m) 2000 kept first (nn N) (nn e) v2 0 0 gn im lm = _ from a1) ▸ ?_
            exact fin im1 lm1 R1 q1 X1 kept first v2 gn a2 a3 (LK_c a4 a5 hK) (by omega) (by omega)
          · rw [if_neg gh]
            exact fin im lm R q X kept first v2 gn hc hL hK (by omega) (by omega)
        · rw [if_neg h0]
          exact fin im lm R q X kept first v2 gn hc hL hK (by omega) (by omega)
      · rw [if_neg (show ¬ (17 : Int32) ≤ nn s by rw [l17]; exact s17)]
        obtain ⟨n1, im1, lm1, R1, q1, X1, a1, a2, a3, a4, a5, a6, _⟩ := m_193_v hc hL v1 h1
        rw [a1, zBn_s]
        exact fin im1 lm1 R1 q1 X1 kept first v2 n1 a4 a5 (LK_c a6.1 a6.2 hK) (by omega) (by omega)
    · rw [if_neg (show ¬ (14 : Int32) ≤ nn s by rw [show (14 : Int32) = nn 14 from rfl, nn_le _ _ (by omega) (by omega)]; exact g14)]
      obtain ⟨im1, lm1, R1, q1, X1, a1, a2, a3, a4, a5⟩ := m_191_v hc hL hN v1 v2
      rw [a1, zBp_s]
      exact fin im1 lm1 R1 q1 X1 kept first v2 gn a2 a3 (LK_c a4.1 a4.2 hK) (by omega) (by omega)
/-- nothing has been picked yet -/
def LB (p : Nat) (R : Nat → Int32) : Prop := rN R = p ∧ R 0 = 0 ∧ R 10 = 0
theorem swc_v {R : Nat → Int32} (h0 : R 0 = 0) (h10 : R 10 = 0) {c : Nat} (hc : c < 25) : aSwc R (nn c) 1 = if bt (R 11) c = true then (-10000005, R, 0) else (nn (pop (wfl R (nn c) 11)), wfl R (nn c), 0) := by
  unfold aSwc
  rw [if_neg (nn_neg c (by omega)), if_neg (show ¬ (25 : Int32) ≤ nn c from nn_ge c 25 hc (by omega)), if_pos ⟨h10, h0⟩, b_get _ c (by omega)]
  cases hb : bt (R 11) c
  · rw [zb_f (by decide), if_neg (show ¬ (0 : Int32) = 1 by decide), if_neg (show ¬ (0 : Int32) = 1 by decide), if_neg (by decide)]
  · rw [zb_t rfl, if_pos rfl, if_pos rfl, if_pos rfl]
theorem f212_129 {len N gn : Nat} (hlen : len ≤ 100000) (hN : 0 < N) (hg : gn = 154) : ∀ d k n im lm R q X, k + d = 4 → d < n → CI im lm R q X → LB N R → ∃ n' im' lm', F_212_129 len n 0 0 (nn N) (nn k) gn im lm = some ((1, n'), im', lm') ∧ 154 ≤ n' ∧ n' ≤ 374 := by
  intro d
  induction d with
  | zero =>
    intro k n im lm R q X hk hn hc hB
    obtain ⟨m, rfl⟩ : ∃ m, n = m + 1 := ⟨n - 1, by omega⟩
    have : k = 4 := by omega
    subst this
    unfold F_212_129
    rw [if_pos (show (4 : Int32) ≤ nn 4 from Int32.le_refl _)]
    refine f212_211 hlen hN 44 0 2000 gn im lm R q X 0 0 rfl (by omega) (by omega) (by omega) hc ⟨hB.1, fun c h _ _ => ?_⟩ (Or.inl rfl)
    rw [hB.2.1] at h; exact absurd h (by decide)
  | succ d ih =>
    intro k n im lm R q X hk hn hc hB
    obtain ⟨m, rfl⟩ : ∃ m, n = m + 1 := ⟨n - 1, by omega⟩
    obtain ⟨b1, b2, b3⟩ := hB
    have hG := hc.1
    have hq := QF_of hc
    obtain ⟨v1, e1⟩ := cell_ok hlen (91 + k) (by omega) im lm
    obtain ⟨c, hcl, ec⟩ := low_ok v1 25 (by decide) (by decide)
    have hA := swc_v b2 b3 hcl
    unfold F_212_129
    rw [if_neg (show ¬ (4 : Int32) ≤ nn k from nn_ge k 4 (by omega) (by omega)), show (91 : Int32) + nn k = nn (91 + k) from nn_addl 91 k, e1, zBp_s, show m_189 v1 25 im lm = some (nn c, im, lm) from ec im lm, zBp_s, hq.2.2.2.1, (q_cl R hcl).2.1, zBp_s]
    cases hb : bt (R 11) c with
    | true =>
      rw [hb, if_pos rfl] at hA
      obtain ⟨im1, lm1, a1, a2, a3⟩ := AD_e (AD_swc hG (nn c) 1) hA hc
      have hq1 := QF_of a2
      rw [a1, zBp_s, zb_t rfl, if_pos rfl]
      unfold J_212_186
      rw [if_pos rfl, hq1.2.2.2.1, (q_cl R hcl).2.1, zBp_s, if_pos (show zb (bt (R 11) c = true) = 1 from zb_t hb), show nn k + 1 = nn (k + 1) from nn_addr k 1]
      exact ih (k + 1) m im1 lm1 R _ _ (by omega) (by omega) a2 ⟨b1, b2, b3⟩
    | false =>
      rw [hb, if_neg (by decide)] at hA
      obtain ⟨im1, lm1, a1, a2, a3⟩ := AD_e (AD_swc hG (nn c) 1) hA hc
      have hq1 := QF_of a2
      have hw : wfl R (nn c) 11 = R 11 ^^^ (1 <<< (nn c &&& 31)) := u1_s _ _ _
      have hbt : bt (wfl R (nn c) 11) c = true := by rw [hw, b_flip _ c (by omega), hb, decide_eq_true rfl]; rfl
      have hB2 : LB N (wfl R (nn c)) := by
        unfold wfl
        refine ⟨by rw [← b1]; unfold rN; rw [u1_n _ _ _ _ (by decide)], ?_, ?_⟩
        · rw [u1_n _ _ _ _ (by decide)]; exact b2
        · rw [u1_n _ _ _ _ (by decide)]; exact b3
      rw [a1, zBp_s, zb_f (by decide), if_neg (show ¬ (0 : Int32) = 1 by decide), m_190_v hq1, zBp_s]
      unfold J_212_186
      rw [if_pos rfl, hq1.2.2.2.1, (q_cl _ hcl).2.1, zBp_s, if_pos (show zb (bt (wfl R (nn c) 11) c = true) = 1 from zb_t hbt), show nn k + 1 = nn (k + 1) from nn_addr k 1]
      exact ih (k + 1) m im1 lm1 _ _ _ (by omega) (by omega) a2 hB2
theorem f212_102 {len N gn : Nat} (hlen : len ≤ 100000) (hN : 0 < N) (hN5 : N ≤ 5) (hg : gn = 154) : ∀ d p n im lm R q X, p + d = N → d < n → CI im lm R q X → LB p R → ∃ n' im' lm', F_212_102 len n 0 0 (nn N) (nn p) gn im lm = some ((1, n'), im', lm') ∧ 154 ≤ n' ∧ n' ≤ 374 := by
  intro d
  induction d with
  | zero =>
    intro p n im lm R q X hp hn hc hB
    obtain ⟨m, rfl⟩ : ∃ m, n = m + 1 := ⟨n - 1, by omega⟩
    have : p = N := by omega
    subst this
    unfold F_212_102
    rw [if_pos (Int32.le_refl _)]
    exact f212_129 hlen hN hg 4 0 2000 im lm R q X rfl (by omega) hc hB
  | succ d ih =>
    intro p n im lm R q X hp hn hc hB
    obtain ⟨m, rfl⟩ : ∃ m, n = m + 1 := ⟨n - 1, by omega⟩
    obtain ⟨b1, b2, b3⟩ := hB
    have hA : aAdd R = (nn (rN R), zeU1 R 1 (nn (rN R + 1)), 0) := by unfold aAdd; rw [if_pos ⟨b3, b2⟩, if_neg (by omega)]
    obtain ⟨im1, lm1, a1, a2, a3⟩ := AD_e (AD_add hc.1) hA hc
    have hB2 : LB (p + 1) (zeU1 R 1 (nn (rN R + 1))) := by
      refine ⟨?_, ?_, ?_⟩
      · unfold rN; rw [u1_s, tn_nn _ (by have := hc.1.1.2; unfold rN at this; omega)]; show rN R + 1 = p + 1; rw [b1]
      · rw [u1_n _ _ _ _ (by decide)]; exact b2
      · rw [u1_n _ _ _ _ (by decide)]; exact b3
    unfold F_212_102
    rw [if_neg (show ¬ nn N ≤ nn p by rw [nn_le _ _ (by omega) (by omega)]; omega), a1, zBp_s, if_pos (by rw [b1]), show nn p + 1 = nn (p + 1) from nn_addr p 1]
    exact ih (p + 1) m im1 lm1 _ _ _ (by omega) (by omega) a2 hB2
/-- the law behind its object's constructor -/
theorem j212_8 {len : Nat} (hlen : len ≤ 100000) {im : zI} {lm : zJ} {R : Nat → Int32} {q : Int32} {X : zX} (hc : CI im lm R q X) (hB : LB 0 R) (hK : xK X = 0) (hT : xT X 0 = 0) : ∃ n' im' lm', J_212_8 len 154 im lm = some ((1, n'), im', lm') ∧ 154 ≤ n' ∧ n' ≤ 374 := by
  obtain ⟨b1, b2, b3⟩ := id hB
  have hA1 : aBeg R = (-10000003, R, 8) := by unfold aBeg; rw [if_pos b1]
  obtain ⟨im1, lm1, a1, a2, a3⟩ := AD_e (AD_beg hc.1) hA1 hc
  have hA2 : aPck R 0 0 = (-10000001, R, 0) := by
    refine aPck_no (?_ : cPck R 0 0 = (-10000001, 0)) (by decide)
    unfold cPck
    rw [if_pos (Or.inr (by rw [hc.1.1.1, b1]; exact Int32.le_refl _))]
  obtain ⟨im2, lm2, c1, c2, c3⟩ := AD_e (AD_pck hc.1 0 0) hA2 a2
  obtain ⟨v8, e8⟩ := cell_ok hlen 90 (by omega) im2 lm2
  obtain ⟨z, hz, ez⟩ := low_ok v8 4 (by decide) (by decide)
  unfold J_212_8
  rw [C_undo0 hc hK, zBp_s, if_pos rfl, show m_151 0 im lm = some (-10000005, im, lm) from C_rest0 hc 0 (by decide) hT, zBp_s, if_pos rfl, (C_slno 2 (by decide) im lm).2, zBp_s, if_pos rfl, (C_slno 2 (by decide) im lm).1, zBp_s, if_pos rfl, a1, zBp_s, if_pos rfl, (QF_c (QF_of a2)).2.2.2.2.2.2.2.2.1, zBp_s, rsn_n _ _ (by decide), if_pos rfl, c1, zBp_s, if_pos rfl, show m_186 len 90 im2 lm2 = some (v8, im2, lm2) from e8, zBp_s, show m_189 v8 4 im2 lm2 = some (nn z, im2, lm2) from ez im2 lm2, zBp_s, show (2 : Int32) + nn z = nn (2 + z) from nn_addl 2 z]
  exact f212_102 hlen (show 0 < 2 + z by omega) (by omega) rfl (2 + z) 0 2000 im2 lm2 R _ _ (by omega) (by omega) c2 hB
