/-! SCRIPTS: carried out *-/
def ctlN (R : Nat → Int32) : Int32 := if rN R = 0 then -10000005 else nn (ctl R)
def aX (c : Nat → Nat) (s : Nat) (R : Nat → Int32) (a : Nat) : zA := if c s = 112 then aPck R (ctlN R) (nn (mvA c s)) else if c s = 98 then aBuz R (nn (mvA c s)) (nn (mvZ c s)) else if c s = 119 then aWag R (nn (mvA c s)) else if c s = 110 then aClo R else aAns R (if c s = 43 then 1 else 0) a
def cX (c : Nat → Nat) (s : Nat) : zI → zJ → zR := if c s = 112 then (fun im lm => zBd (m_47 im lm) fun _ im1 lm1 => m_48 (im1 170 13) (nn (mvA c s)) im1 lm1) else if c s = 98 then m_61 (nn (mvA c s)) (nn (mvZ c s)) else if c s = 119 then m_100 (nn (mvA c s)) else if c s = 110 then m_94 else m_87
def dX (c : Nat → Nat) (s : Nat) : zI → zJ → zR := if c s = 112 then m_50 (nn (mvA c s)) else if c s = 98 then m_65 (nn (mvA c s)) (nn (mvZ c s)) else if c s = 119 then m_101 (nn (mvA c s)) else if c s = 110 then m_95 else m_90 (if c s = 43 then 1 else 0)
def eX (c : Nat → Nat) (s : Nat) (R : Nat → Int32) : zI → zJ → zR := if c s = 112 then m_42 (ctlN R) (nn (mvA c s)) else if c s = 98 then m_58 (nn (mvA c s)) (nn (mvZ c s)) else if c s = 119 then m_97 (nn (mvA c s)) else if c s = 110 then m_92 else m_85 (if c s = 43 then 1 else 0)
def MvOk (R : Nat → Int32) (A : zA) (C D : zI → zJ → zR) : Prop := (∃ code w, (code = -10000001 ∨ code = -10000002 ∨ code = -10000003 ∨ code = -10000005) ∧ A = (code, R, w) ∧ ChM C R code w) ∨ (∃ x R', A = (x, R', 0) ∧ okR x ∧ ChM C R 0 0 ∧ DxM D R x R')
theorem mv_pck {R : Nat → Int32} (hG : GD R) (p c : Int32) : MvOk R (aPck R p c) (m_48 p c) (m_50 c) := by
  have hC := Ch_pck hG p c
  rcases pck_cases hG p c with ⟨_, h⟩ | ⟨k, hk, rfl, ⟨_, h⟩ | ⟨x, hx, rfl, ⟨_, h⟩ | ⟨h0, ⟨_, h⟩ | ⟨_, ⟨_, h⟩ | ⟨_, h⟩⟩⟩⟩⟩
  · rw [h] at hC; exact Or.inl ⟨_, _, by simp, aPck_no h (by decide), hC⟩
  · rw [h] at hC; exact Or.inl ⟨_, _, by simp, aPck_no h (by decide), hC⟩
  · rw [h] at hC; exact Or.inl ⟨_, _, by simp, aPck_no h (by decide), hC⟩
  · rw [h] at hC; exact Or.inl ⟨_, _, by simp, aPck_no h (by decide), hC⟩
  · rw [h] at hC; exact Or.inl ⟨_, _, by simp, aPck_no h (by decide), hC⟩
  · rw [h] at hC; exact Or.inr ⟨_, _, aPck_ok hx h, okR_nn _ (by unfold valC; omega), hC, Dx_pck hx⟩
theorem mv_buz {R : Nat → Int32} (hG : GD R) (p t : Int32) : MvOk R (aBuz R p t) (m_61 p t) (m_65 p t) := by
  have h6 := hG.1.2
  have hC := Ch_buz hG p t
  rcases buz_cases hG p t with ⟨_, h⟩ | ⟨k, hk, rfl, ⟨_, h⟩ | ⟨x, hx, rfl, ⟨_, h⟩ | ⟨h0, ⟨_, h⟩ | ⟨_, h⟩⟩⟩⟩
  · rw [h] at hC; exact Or.inl ⟨_, _, by simp, aBuz_no h (by decide), hC⟩
  · rw [h] at hC; exact Or.inl ⟨_, _, by simp, aBuz_no h (by decide), hC⟩
  · rw [h] at hC; exact Or.inl ⟨_, _, by simp, aBuz_no h (by decide), hC⟩
  · rw [h] at hC; exact Or.inl ⟨_, _, by simp, aBuz_no h (by decide), hC⟩
  · rw [h] at hC; exact Or.inr ⟨_, _, aBuz_ok (by omega) hx h, okR_nn _ (by have := cntN_le (isqB (buzR R k x)) (rN R); omega), hC, Dx_buz hG (by omega) hx⟩
theorem mv_wag {R : Nat → Int32} (hG : GD R) (v : Int32) : MvOk R (aWag R v) (m_100 v) (m_101 v) := by
  have hC := Ch_wag hG v
  unfold cWag at hC
  unfold aWag
  by_cases h1 : v < 0
  · rw [if_pos h1] at hC ⊢; exact Or.inl ⟨_, _, by simp, rfl, hC⟩
  rw [if_neg h1] at hC ⊢
  by_cases h2 : v ≤ 100000
  · rw [if_pos h2] at hC ⊢
    by_cases h3 : R 0 = 2
    · rw [if_pos h3] at hC ⊢
      by_cases h4 : v ≤ limW R
      · rw [if_pos h4] at hC ⊢
        obtain ⟨w, hw, rfl⟩ := wag_arg h1 h2
        exact Or.inr ⟨_, _, rfl, limW_ok hG, hC, Dx_wag hG h3 hw⟩
      · rw [if_neg h4] at hC ⊢; exact Or.inl ⟨_, _, by simp, rfl, hC⟩
    · rw [if_neg h3] at hC ⊢; exact Or.inl ⟨_, _, by simp, rfl, hC⟩
  · rw [if_neg h2] at hC ⊢; exact Or.inl ⟨_, _, by simp, rfl, hC⟩
theorem mv_clo (R : Nat → Int32) : MvOk R (aClo R) m_94 m_95 := by
  have hC := Ch_clo R
  unfold aClo
  by_cases g : R 0 = 1
  · rw [if_pos g, if_pos g] at hC
    rw [if_pos g]
    exact Or.inr ⟨_, _, rfl, okR_nn _ (by have := pop_le (R 14); omega), hC, Dx_clo R⟩
  · rw [if_neg g, if_neg g] at hC
    rw [if_neg g]
    exact Or.inl ⟨_, _, by simp, rfl, hC⟩
theorem mv_ans {R : Nat → Int32} (hG : GD R) {r : Int32} (hr : r = 0 ∨ r = 1) {a : Nat} (hF : R 0 = 5 → F5 R a) : MvOk R (aAns R r a) m_87 (m_90 r) := by
  have hC := Ch_ans hG
  rcases ans_cases hG hr hF with ⟨w, h1, h2, h3⟩ | ⟨h1, x, R', h2, h3, h4, h5⟩
  · rw [h1] at hC; exact Or.inl ⟨_, _, by simp, h3, hC⟩
  · rw [h1] at hC; exact Or.inr ⟨_, _, h2, h4, hC, h5⟩
theorem ch_47 {R : Nat → Int32} (hG : GD R) {A : zA} {D : zI → zJ → zR} {x : Int32} (h : MvOk R A (m_48 (ctlN R) x) D) : MvOk R A (fun im lm => zBd (m_47 im lm) fun _ im1 lm1 => m_48 (im1 170 13) x im1 lm1) D := by
  have key : ∀ code w, ChM (m_48 (ctlN R) x) R code w → ChM (fun im lm => zBd (m_47 im lm) fun _ im1 lm1 => m_48 (im1 170 13) x im1 lm1) R code w := by
    intro code w h im lm hR
    obtain ⟨im2, a1, a2, a3, a4, a5, _⟩ := s47g hG im lm hR
    obtain ⟨im3, b1, b2, b3, b4⟩ := h im2 lm a3
    refine ⟨im3, ?_, FM_t a2 b2, b3, by rw [b4, a4]⟩
    show zBd (m_47 im lm) (fun _ im1 lm1 => m_48 (im1 170 13) x im1 lm1) = _
    rw [a1, zBd_s, a5]
    exact b1
  rcases h with ⟨code, w, h1, h2, h3⟩ | ⟨y, R', h1, h2, h3, h4⟩
  · exact Or.inl ⟨code, w, h1, h2, key _ _ h3⟩
  · exact Or.inr ⟨y, R', h1, h2, key _ _ h3, h4⟩
theorem ite_01 (c : Nat → Nat) (s : Nat) : (if c s = 43 then 1 else 0 : Int32) = 0 ∨ (if c s = 43 then 1 else 0 : Int32) = 1 := by
  by_cases g : c s = 43
  · rw [if_pos g]; exact Or.inr rfl
  · rw [if_neg g]; exact Or.inl rfl
theorem mv_X {R : Nat → Int32} (hG : GD R) (c : Nat → Nat) (s : Nat) {a : Nat} (hF : R 0 = 5 → F5 R a) : MvOk R (aX c s R a) (cX c s) (dX c s) := by
  unfold aX cX dX
  by_cases g1 : c s = 112
  · rw [if_pos g1, if_pos g1, if_pos g1]; exact ch_47 hG (mv_pck hG _ _)
  rw [if_neg g1, if_neg g1, if_neg g1]
  by_cases g2 : c s = 98
  · rw [if_pos g2, if_pos g2, if_pos g2]; exact mv_buz hG _ _
  rw [if_neg g2, if_neg g2, if_neg g2]
  by_cases g3 : c s = 119
  · rw [if_pos g3, if_pos g3, if_pos g3]; exact mv_wag hG _
  rw [if_neg g3, if_neg g3, if_neg g3]
  by_cases g4 : c s = 110
  · rw [if_pos g4, if_pos g4, if_pos g4]; exact mv_clo R
  rw [if_neg g4, if_neg g4, if_neg g4]
  exact mv_ans hG (ite_01 c s) hF
theorem r01_i {r : Int32} (h : r = 0 ∨ r = 1) : r01 r = r := by rcases h with h | h <;> subst h <;> rfl
theorem do_X {R : Nat → Int32} (hG : GD R) (c : Nat → Nat) (s : Nat) {a : Nat} (hF : R 0 = 5 → F5 R a) : DoA (eX c s R) R (aX c s R a) ∧ GD (aX c s R a).2.1 := by
  unfold aX eX
  by_cases g1 : c s = 112
  · rw [if_pos g1, if_pos g1]; exact ⟨DoA_pck hG _ _, GD_aPck hG _ _⟩
  rw [if_neg g1, if_neg g1]
  by_cases g2 : c s = 98
  · rw [if_pos g2, if_pos g2]; exact ⟨DoA_buz hG _ _, GD_aBuz hG _ _⟩
  rw [if_neg g2, if_neg g2]
  by_cases g3 : c s = 119
  · rw [if_pos g3, if_pos g3]; exact ⟨DoA_wag hG _, GD_aWag hG _⟩
  rw [if_neg g3, if_neg g3]
  by_cases g4 : c s = 110
  · rw [if_pos g4, if_pos g4]; exact ⟨DoA_clo hG, GD_aClo hG⟩
  rw [if_neg g4, if_neg g4]
  have h := DoA_ans hG (if c s = 43 then 1 else 0) hF
  rw [r01_i (ite_01 c s)] at h
  exact ⟨h, GD_aAns hG (ite_01 c s) hF⟩
/-! the class's move -/
theorem s135_l {im : zI} {c : Nat → Nat} {L : Nat} (h : TxC im c L) (lm : zJ) (s d : Nat) (hL : s + 1 + d ≤ L) (hd : d ≤ 4) (hg : ∀ x, s < x → x < s + 1 + d → 48 ≤ c x ∧ c x ≤ 57) : ∀ e i n, i + e = d → e < n → F_135_5 n (nn (s + 1)) (nn d) (nn (val c s i)) (nn (s + 1 + i)) im lm = some (nn (val c s d), im, lm) := by
  have hLL := h.2.1
  intro e
  induction e with
  | zero =>
    intro i n hi hn
    obtain ⟨m, rfl⟩ : ∃ m, n = m + 1 := ⟨n - 1, by omega⟩
    have : i = d := by omega
    subst this
    rw [F_135_5.eq_2, nn_add, if_pos (Int32.le_refl _)]
  | succ e ih =>
    intro i n hi hn
    obtain ⟨m, rfl⟩ : ∃ m, n = m + 1 := ⟨n - 1, by omega⟩
    have hc := hg (s + 1 + i) (by omega) (by omega)
    have hv := val_lt c s i (fun x h1 h2 => hg x h1 (by omega))
    have hv2 : 10 ^ i ≤ 10 ^ 4 := Nat.pow_le_pow_right (by decide) (by omega)
    have hv3 : (10 : Nat) ^ 4 = 10000 := rfl
    have hsg : sgn c L (s + 1 + i) = c (s + 1 + i) := if_pos (by omega)
    rw [F_135_5.eq_2, nn_add, if_neg (nn_ge (s + 1 + i) (s + 1 + d) (by omega) (by omega)), s130 h lm _ (by omega), zBd_s, hsg, nn_s1, show (10 : Int32) * nn (val c s i) = nn (10 * val c s i) from nn_mull 10 _, nn_add, show nn (10 * val c s i + c (s + 1 + i)) - 48 = nn (10 * val c s i + c (s + 1 + i) - 48) from nn_subr _ 48 (by show 48 ≤ _; omega) (by omega), show 10 * val c s i + c (s + 1 + i) - 48 = val c s (i + 1) by show _ = 10 * val c s i + (c (s + 1 + i) - 48); omega]
    exact ih (i + 1) m (by omega) (by omega)
theorem s135 {im : zI} {c : Nat → Nat} {L : Nat} (h : TxC im c L) (lm : zJ) (s d : Nat) (hL : s + 1 + d ≤ L) (hd : d ≤ 4) (hg : ∀ x, s < x → x < s + 1 + d → 48 ≤ c x ∧ c x ≤ 57) : m_135 (nn (s + 1)) (nn d) im lm = some (nn (val c s d), im, lm) :=
  s135_l h lm s d hL hd hg d 0 2000 (by omega) (by omega)
theorem s136 {R : Nat → Int32} (hG : GD R) {q : Int32} {im : zI} {lm : zJ} (hn : NW im lm R q) {c : Nat → Nat} {L : Nat} (h : TxC im c L) {s : Nat} (hs : s < L) (hB : mvB c L s = none) : m_136 (nn s) im lm = zBd (eX c s R im lm) fun v im1 lm1 => some (v, im1, lm1) := by
  have hL := h.2.1
  have hml := mvL_v (c s)
  obtain ⟨q1, q2, q3⟩ := mvB_none hs hB
  have hg : ∀ x, s < x → x < s + 1 + (mvL (c s) - 1) → 48 ≤ c x ∧ c x ≤ 57 := fun x h1 h2 => ⟨(q3 x h1 (by omega)).1, Nat.le_trans (q3 x h1 (by omega)).2 (gd_57 c s x)⟩
  have hc := (h.2.2 s hs).2
  have hsg : sgn c L s = c s := if_pos hs
  have e1 : (nn (c s) = 112) = (c s = 112) := nnl (c s) 112 hc (by decide)
  have e2 : (nn (c s) = 98) = (c s = 98) := nnl (c s) 98 hc (by decide)
  have e3 : (nn (c s) = 119) = (c s = 119) := nnl (c s) 119 hc (by decide)
  have e4 : (nn (c s) = 43) = (c s = 43) := nnl (c s) 43 hc (by decide)
  have e5 : (nn (c s) = 45) = (c s = 45) := nnl (c s) 45 hc (by decide)
  unfold m_136
  rw [s130 h lm s (by omega), zBd_s, hsg]
  simp only [e1, e2, e3, e4, e5]
  unfold eX
  by_cases k43 : c s = 43
  · rw [if_pos k43, if_neg (show ¬ c s = 112 by omega), if_neg (show ¬ c s = 98 by omega), if_neg (show ¬ c s = 119 by omega), if_neg (show ¬ c s = 110 by omega), if_pos k43]
  by_cases k45 : c s = 45
  · rw [if_neg k43, if_pos k45, if_neg (show ¬ c s = 112 by omega), if_neg (show ¬ c s = 98 by omega), if_neg (show ¬ c s = 119 by omega), if_neg (show ¬ c s = 110 by omega), if_neg k43]
  rw [if_neg k43, if_neg k45]
  by_cases k98 : c s = 98
  · have hm : mvL (c s) = 4 := by rw [k98]; rfl
    rw [if_pos k98, if_neg (show ¬ c s = 112 by omega), if_pos k98]
    have d1 := hg (s + 1) (by omega) (by omega)
    have d2 := hg (s + 2) (by omega) (by omega)
    have d3 := hg (s + 3) (by omega) (by omega)
    have hv : val c s 3 = 100 * (c (s + 1) - 48) + (10 * (c (s + 2) - 48) + (c (s + 3) - 48)) := by
      show 10 * (10 * (10 * 0 + (c (s + 1 + 0) - 48)) + (c (s + 1 + 1) - 48)) + (c (s + 1 + 2) - 48) = _
      rw [show s + 1 + 0 = s + 1 from rfl, show s + 1 + 1 = s + 2 from rfl, show s + 1 + 2 = s + 3 from rfl]
      omega
    have eA : mvA c s = val c s 1 := by
      unfold mvA; rw [if_pos k98, hm, show 4 - 1 = 3 from rfl, hv]
      show _ = 10 * 0 + (c (s + 1 + 0) - 48)
      rw [show s + 1 + 0 = s + 1 from rfl]
      omega
    have eZ : mvZ c s = val c (s + 1) 2 := by
      unfold mvZ; rw [hm, show 4 - 1 = 3 from rfl, hv]
      show _ = 10 * (10 * 0 + (c (s + 1 + 1 + 0) - 48)) + (c (s + 1 + 1 + 1) - 48)
      rw [show s + 1 + 1 + 0 = s + 2 from rfl, show s + 1 + 1 + 1 = s + 3 from rfl]
      omega
    rw [nn_s1, show (1 : Int32) = nn 1 from rfl, s135 h lm s 1 (by omega) (by omega) (fun x h1 h2 => hg x h1 (by omega)), zBd_s, show nn s + 2 = nn (s + 1 + 1) from nn_addr s 2, show (2 : Int32) = nn 2 from rfl, s135 h lm (s + 1) 2 (by omega) (by omega) (fun x h1 h2 => hg x (by omega) (by omega)), zBd_s, eA, eZ]
  rw [if_neg k98]
  by_cases k112 : c s = 112
  · have hm : mvL (c s) = 3 := by rw [k112]; rfl
    rw [if_pos k112, if_pos k112]
    have eA : mvA c s = val c s 2 := by unfold mvA; rw [if_neg k98, hm]
    have hct : (if im 17 1 = 0 then (-10000005) else im 32 0 : Int32) = ctlN R := by
      have h17 : im 17 1 = R 1 := hn.1.1.2.1
      have hz : (R 1 = 0) = (rN R = 0) := by rw [hG.1.1]; exact nn_inj _ 0 (by have := hG.1.2; omega) (by decide)
      unfold ctlN
      rw [h17]
      simp only [hz]
      by_cases g : rN R = 0
      · rw [if_pos g, if_pos g]
      · rw [if_neg g, if_neg g]
        exact hn.2.1.1.trans (ctl_e hG (by omega)).1
    rw [nn_s1, show (2 : Int32) = nn 2 from rfl, s135 h lm s 2 (by omega) (by omega) (fun x h1 h2 => hg x h1 (by omega)), zBd_s, hct, eA]
  rw [if_neg k112, if_neg k112, if_neg k98]
  by_cases k119 : c s = 119
  · have hm : mvL (c s) = 5 := by rw [k119]; rfl
    have eA : mvA c s = val c s 4 := by unfold mvA; rw [if_neg k98, hm]
    rw [if_pos k119, if_pos k119, nn_s1, show (4 : Int32) = nn 4 from rfl, s135 h lm s 4 (by omega) (by omega) (fun x h1 h2 => hg x h1 (by omega)), zBd_s, eA]
  rw [if_neg k119, if_neg k119]
  have k110 : c s = 110 := by
    have := q1
    unfold mvL at this
    simp only [k43, k45, k98, k112, k119, if_false] at this
    by_cases g : c s = 110
    · exact g
    · rw [if_neg g] at this; omega
  rw [if_pos k110]
