/-! THE ACTS over the law's invariant *-/
/-- players; and as long as a clue is open, its answers are those who have answered -/
def LI (N : Nat) (R : Nat → Int32) : Prop := rN R = N ∧ ∀ c, R 0 = 1 → R 2 = nn c → c < 25 → cntN (ansE R c) (rE R) = pop (R 14)
def AD (D : zI → zJ → zR) (R : Nat → Int32) (A : zA) : Prop := ∀ im lm q X, CI im lm R q X → ∃ im' lm', D im lm = some (A.1, im', lm') ∧ CI im' lm' A.2.1 (rsn q A.2.2) (xrec A.1 R X) ∧ FA im im'
theorem AD_of {D : zI → zJ → zR} {R : Nat → Int32} {A : zA} (h : DoA D R A) (hG' : GD A.2.1) : AD (actW D) R A := fun _ _ _ _ hc => CI_act h hG' hc
theorem AD_add {R : Nat → Int32} (hG : GD R) : AD m_22 R (aAdd R) := AD_of (DoA_add hG) (GD_aAdd hG)
theorem AD_swc {R : Nat → Int32} (hG : GD R) (a b : Int32) : AD (m_31 a b) R (aSwc R a b) := AD_of (D := m_30 a b) (DoA_swc hG a b) (GD_aSwc hG a b)
theorem AD_set {R : Nat → Int32} (hG : GD R) (a b : Int32) : AD (m_36 a b) R (aSet R a b) := AD_of (D := m_35 a b) (DoA_set hG a b) (GD_aSet hG a b)
theorem AD_pck {R : Nat → Int32} (hG : GD R) (a b : Int32) : AD (m_43 a b) R (aPck R a b) := AD_of (D := m_42 a b) (DoA_pck hG a b) (GD_aPck hG a b)
theorem AD_buz {R : Nat → Int32} (hG : GD R) (a b : Int32) : AD (m_59 a b) R (aBuz R a b) := AD_of (D := m_58 a b) (DoA_buz hG a b) (GD_aBuz hG a b)
theorem AD_ans {R : Nat → Int32} (hG : GD R) (l : Int32) {a : Nat} (hF : R 0 = 5 → F5 R a) : AD (m_86 l) R (aAns R (r01 l) a) := AD_of (D := m_85 l) (DoA_ans hG l hF) (GD_aAns hG (r01_v l).1 hF)
theorem AD_clo {R : Nat → Int32} (hG : GD R) : AD m_93 R (aClo R) := AD_of (D := m_92) (DoA_clo hG) (GD_aClo hG)
theorem AD_wag {R : Nat → Int32} (hG : GD R) (a : Int32) : AD (m_98 a) R (aWag R a) := AD_of (D := m_97 a) (DoA_wag hG a) (GD_aWag hG a)
theorem AD_beg {R : Nat → Int32} (hG : GD R) : AD m_105 R (aBeg R) := AD_of (D := m_104) (DoA_beg hG) (GD_aBeg hG)
theorem AD_wf {R : Nat → Int32} (hG : GD R) (a b : Int32) : AD (m_110 a b) R (aWf R a b) := AD_of (D := m_109 a b) (DoA_wf hG a b) (GD_aWf hG a b)
theorem AD_cor {R : Nat → Int32} (hG : GD R) (a b : Int32) : AD (m_116 a b) R (aCor R a b) := AD_of (D := m_115 a b) (DoA_cor hG a b) (GD_aCor hG a b)
theorem AD_rej {R : Nat → Int32} (hG : GD R) (a : Int32) : AD (m_122 a) R (aRej R a) := AD_of (D := m_121 a) (DoA_rej hG a) (GD_aRej hG a)
theorem AD_e {D : zI → zJ → zR} {R R' : Nat → Int32} {A : zA} {r w q : Int32} {X : zX} {im : zI} {lm : zJ} (h : AD D R A) (hA : A = (r, R', w)) (hc : CI im lm R q X) : ∃ im' lm', D im lm = some (r, im', lm') ∧ CI im' lm' R' (rsn q w) (xrec r R X) ∧ FA im im' := by
  subst hA; exact h im lm q X hc
theorem xrec_T (r : Int32) (R : Nat → Int32) (X : zX) : xT (xrec r R X) = xT X ∧ xS (xrec r R X) = xS X := by
  unfold xrec
  by_cases h : okR r
  · rw [if_pos h]; exact ⟨rfl, rfl⟩
  · rw [if_neg h]; exact ⟨rfl, rfl⟩
theorem rsn_n (q w : Int32) (h : ¬ w = 0) : rsn q w = w := if_neg h
theorem rsn_0 (q : Int32) : rsn q 0 = q := if_pos rfl
theorem pop_0 {x : Int32} (h : ∀ i, 25 ≤ i → bt x i = false) : (pop x = 0) = (x = 0) := by
  apply propext
  constructor
  · intro h0
    apply b_ext
    intro i _
    rw [b_0]
    by_cases g : i < 25
    · cases hb : bt x i with
      | false => rfl
      | true =>
        exfalso
        have := cntN_ms (f := fun _ => false) (g := fun i => bt x i) (x := i) hb rfl 25 g (fun k _ hk => by cases hk)
        unfold pop at h0; omega
    · exact h i (by omega)
  · intro h0
    subst h0
    have : pop 0 = cntN (fun _ => false) 25 := cntN_c 25 (fun k _ => b_0 k)
    rw [this]; rfl
theorem cntN_st {f g : Nat → Bool} {x : Nat} (hf : f x = false) (hg : g x = true) : ∀ n, x < n → (∀ k, k < n → k ≠ x → g k = f k) → cntN g n = cntN f n + 1 := by
  intro n
  induction n with
  | zero => intro h; omega
  | succ n ih =>
    intro hx h
    show cntN g n + (if g n = true then 1 else 0) = cntN f n + (if f n = true then 1 else 0) + 1
    by_cases e : x = n
    · subst e
      rw [cntN_c x (fun k hk => h k (by omega) (by omega)), hf, hg, if_pos rfl, if_neg (by decide)]
    · rw [ih (by omega) (fun k hk => h k (by omega)), h n (by omega) (fun g => e g.symm)]; omega
theorem pop_set {x : Int32} {p : Nat} (hp : p < 25) (h : bt x p = false) : pop (x ||| (1 <<< (nn p &&& 31))) = pop x + 1 := by
  unfold pop
  refine cntN_st (x := p) h ?_ 25 hp ?_
  · rw [b_set x p (by omega), decide_eq_true rfl, Bool.or_true]
  · intro k _ hk; rw [b_set x p (by omega), decide_eq_false hk, Bool.or_false]
theorem LI_c {N : Nat} {R R' : Nat → Int32} (h1 : R' 1 = R 1) (h5 : R' 5 = R 5) (hl : ∀ k, k < rE R → R' (60 + 5 * k + 2) = R (60 + 5 * k + 2)) (h0 : R' 0 = 1 → R 0 = 1 ∧ R' 2 = R 2 ∧ R' 14 = R 14) (hL : LI N R) : LI N R' := by
  obtain ⟨a1, a2⟩ := hL
  have eE : rE R' = rE R := by unfold rE; rw [h5]
  refine ⟨by rw [← a1]; unfold rN; rw [h1], fun c g1 g2 g3 => ?_⟩
  obtain ⟨b1, b2, b3⟩ := h0 g1
  rw [b3, ← a2 c b1 (b2 ▸ g2) g3, eE]
  refine cntN_c _ (fun k hk => ?_)
  unfold ansE
  rw [hl k hk]
theorem LI_pck {N : Nat} {R : Nat → Int32} (hG : GD R) (hL : LI N R) {c : Nat} (hc : c < 25) (hb : bt (R 10) c = false) : LI N (pckR R c) := by
  obtain ⟨e0, e2, e3, e4, e10, e14, eb, uo⟩ := pckR_e R c
  have eE : rE (pckR R c) = rE R := by unfold rE; rw [uo 5 (by decide) (by decide) (by decide) (by decide) (by decide) (by decide) (by decide)]
  refine ⟨by rw [← hL.1]; unfold rN; rw [uo 1 (by decide) (by decide) (by decide) (by decide) (by decide) (by decide) (by decide)], fun c' g1 g2 g3 => ?_⟩
  rw [e2, nn_inj _ _ (by omega) (by omega)] at g2
  subst g2
  rw [e14, show pop 0 = 0 from (pop_0 (x := 0) (fun i _ => b_0 i)).mpr rfl, eE]
  have : cntN (ansE (pckR R c) c) (rE R) = cntN (fun _ => false) (rE R) := by
    refine cntN_c _ (fun k hk => ?_)
    unfold ansE
    rw [uo _ (by omega) (by omega) (by omega) (by omega) (by omega) (by omega) (by omega)]
    refine decide_eq_false fun h => ?_
    rcases (hG.2.2.1 k hk).1.2.1 with ⟨c', h1, h2, _, _, h3, _⟩ | ⟨h1, _⟩ | ⟨h1, _⟩
    · rw [h, nn_inj _ _ (by omega) (by omega)] at h2
      rw [← h2, hb] at h3; cases h3
    · rw [h] at h1; exact (nnm c (by omega)).1 h1
    · rw [h] at h1; exact (nnm c (by omega)).1 h1
  rw [this]
  have : ∀ n, cntN (fun _ => false) n = 0 := by
    intro n
    induction n with
    | zero => rfl
    | succ n ih => show cntN (fun _ => false) n + (if false = true then 1 else 0) = 0; rw [ih]; rfl
  exact this _
theorem LI_cor {N : Nat} {R : Nat → Int32} (hG : GD R) (hL : LI N R) (hE : rE R < 60) (p v : Int32) : LI N (entR R p 4 (-1) v (-1)) := by
  obtain ⟨e5, q0, q1, q2, q3, q4, uo⟩ := entR_e R p 4 (-1) v (-1)
  have eE : rE (entR R p 4 (-1) v (-1)) = rE R + 1 := by
    show (entR R p 4 (-1) v (-1) 5).toNatClampNeg = rE R + 1
    rw [e5, tn_nn _ (by omega)]
  refine ⟨by rw [← hL.1]; unfold rN; rw [uo 1 (by omega) (by omega)], fun c g1 g2 g3 => ?_⟩
  rw [uo 0 (by omega) (by omega)] at g1
  rw [uo 2 (by omega) (by omega)] at g2
  rw [uo 14 (by omega) (by omega), ← hL.2 c g1 g2 g3, eE]
  show cntN _ (rE R) + (if ansE (entR R p 4 (-1) v (-1)) c (rE R) = true then 1 else 0) = _
  have e1 : ansE (entR R p 4 (-1) v (-1)) c (rE R) = false := by
    unfold ansE
    rw [q2]
    exact decide_eq_false (fun h => (nnm c (by omega)).1 h.symm)
  rw [e1, if_neg (by decide)]
  refine cntN_c _ (fun k hk => ?_)
  unfold ansE
  rw [uo _ (by omega) (by omega)]
theorem LI_an1 {N : Nat} {R : Nat → Int32} (hG : GD R) (hL : LI N R) (hE : rE R < 60) (h0 : R 0 = 1) {p : Nat} (hp : p < 6) (hb : bt (R 14) p = false) (r : Int32) : LI N (an1 R p r) := by
  obtain ⟨e5, q0, q1, q2, q3, q4, e0, e2, e14, uo⟩ := ansB_e R p (if R 14 = 0 then 0 else 1) (R 2) (nn (stA R)) r (R 14 ||| (1 <<< (nn p &&& 31))) (if r = 1 then 0 else R 0) (if r = 1 then -1 else R 2)
  show LI N (ansB R p (if R 14 = 0 then 0 else 1) (R 2) (nn (stA R)) r (R 14 ||| (1 <<< (nn p &&& 31))) (if r = 1 then 0 else R 0) (if r = 1 then -1 else R 2))
  generalize ansB R p (if R 14 = 0 then 0 else 1) (R 2) (nn (stA R)) r (R 14 ||| (1 <<< (nn p &&& 31))) (if r = 1 then 0 else R 0) (if r = 1 then -1 else R 2) = R' at e5 q0 q1 q2 q3 q4 e0 e2 e14 uo
  have eE : rE R' = rE R + 1 := by
    show (R' 5).toNatClampNeg = rE R + 1
    rw [e5, tn_nn _ (by omega)]
  refine ⟨by rw [← hL.1]; unfold rN; rw [uo 1 (by omega) (by omega) (by omega) (by omega) (by omega)], fun c g1 g2 g3 => ?_⟩
  by_cases g : r = 1
  · rw [e0, if_pos g] at g1; exact absurd g1 (by decide)
  · rw [e2, if_neg g] at g2
    rw [e14, pop_set (by omega) hb, ← hL.2 c h0 g2 g3, eE]
    show cntN _ (rE R) + (if ansE R' c (rE R) = true then 1 else 0) = _
    have e1 : ansE R' c (rE R) = true := by unfold ansE; rw [q2]; exact decide_eq_true g2
    rw [e1, if_pos rfl]
    congr 1
    refine cntN_c _ (fun k hk => ?_)
    unfold ansE
    rw [uo _ (by omega) (by omega) (by omega) (by omega) (by omega)]
theorem LI_nb {N : Nat} {R : Nat → Int32} (hL : LI N R) {R' : Nat → Int32} (h1 : R' 1 = R 1) (h0 : ¬ R' 0 = 1) : LI N R' :=
  ⟨by rw [← hL.1]; unfold rN; rw [h1], fun c g1 _ _ => absurd g1 h0⟩
/-! what a part of the law answers: 1, and the invariant again -/
def LPo (N : Nat) (im : zI) (X : zX) (r : zR) : Prop := ∃ im' lm' R' q' X', r = some (1, im', lm') ∧ CI im' lm' R' q' X' ∧ LI N R' ∧ (xT X' = xT X ∧ xS X' = xS X) ∧ FA im im'
theorem LP_i {N : Nat} {im im' : zI} {lm' : zJ} {X : zX} {R R' : Nat → Int32} {q' r : Int32} {z : zR} (hz : z = some (1, im', lm')) (hc : CI im' lm' R' q' (xrec r R X)) (hL : LI N R') (hF : FA im im') : LPo N im X z :=
  ⟨im', lm', R', q', _, hz, hc, hL, xrec_T _ _ _, hF⟩
theorem LP_t {N : Nat} {im im1 : zI} {X X1 : zX} {z : zR} (hF : FA im im1) (hX : xT X1 = xT X ∧ xS X1 = xS X) (h : LPo N im1 X1 z) : LPo N im X z := by
  obtain ⟨im', lm', R', q', X', a1, a2, a3, a4, a5⟩ := h
  exact ⟨im', lm', R', q', X', a1, a2, a3, ⟨a4.1.trans hX.1, a4.2.trans hX.2⟩, FA_t hF a5⟩
