/-! ACTS: wagerFinal *-/
theorem pl_no {R : Nat → Int32} (hG : GD R) {p : Int32} (h : p < 0 ∨ R 1 ≤ p) : (if p < 0 then 0 else if R 1 ≤ p then 0 else 1 : Int32) = 0 ∧ (if (if p < 0 then 0 else if R 1 - 1 < p then 0 else 1 : Int32) = 0 then 1 else 0 : Int32) = 1 := by
  by_cases h1 : p < 0
  · simp only [h1, if_true]; decide
  · have h2 : R 1 ≤ p := by rcases h with h | h; exact absurd h h1; exact h
    have h3 : R 1 - 1 < p := by
      obtain ⟨e, h6⟩ := hG.1
      rw [e, Int32.le_iff_toInt_le, ti_nn _ (by omega)] at h2
      have e1 : (1 : Int32).toInt = 1 := by decide +kernel
      rw [e, Int32.lt_iff_toInt_lt, ti_sub _ _ (by rw [ti_nn _ (by omega), e1]; omega) (by rw [ti_nn _ (by omega), e1]; omega), ti_nn _ (by omega), e1]
      omega
    simp only [h1, h2, h3, if_true, if_false]; decide
theorem pl_yes {R : Nat → Int32} (hG : GD R) {k : Nat} (h : k < rN R) : (if nn k < 0 then 0 else if R 1 ≤ nn k then 0 else 1 : Int32) = 1 ∧ (if (if nn k < 0 then 0 else if R 1 - 1 < nn k then 0 else 1 : Int32) = 0 then 1 else 0 : Int32) = 0 := by
  obtain ⟨e, h6⟩ := hG.1
  have h2 : ¬ R 1 ≤ nn k := by rw [e]; exact nn_ge k _ h (by omega)
  have h3 : ¬ R 1 - 1 < nn k := by
    have e1 : (1 : Int32).toInt = 1 := by decide +kernel
    rw [e, Int32.lt_iff_toInt_lt, ti_sub _ _ (by rw [ti_nn _ (by omega), e1]; omega) (by rw [ti_nn _ (by omega), e1]; omega), ti_nn _ (by omega), ti_nn _ (by omega), e1]
    omega
  simp only [nn_neg k (by omega), h2, h3, if_false]; decide
theorem pl_cases {R : Nat → Int32} (hG : GD R) (p : Int32) : (p < 0 ∨ R 1 ≤ p) ∨ ∃ k, k < rN R ∧ p = nn k := by
  by_cases h1 : p < 0
  · exact Or.inl (Or.inl h1)
  by_cases h2 : R 1 ≤ p
  · exact Or.inl (Or.inr h2)
  · obtain ⟨e, h6⟩ := hG.1
    rw [e] at h2
    exact Or.inr (nn_of_lt (Int32.not_lt.mp h1) (Int32.not_le.mp h2) (by omega))
def wnB (Q : Nat → Int32) (k : Nat) : Bool := bt (Q 13) k && decide (Q (22 + k) < 0)
def wfI (R : Nat → Int32) (p : Nat) (v : Int32) : Nat → Int32 := zeU1 R (22 + p) v
def wfR (R : Nat → Int32) (p : Nat) (v : Int32) : Nat → Int32 := zeU1 (wfI R p v) 0 (if cntN (wnB (wfI R p v)) (rN R) = 0 then 5 else 4)
def aWf (R : Nat → Int32) (p v : Int32) : zA := if p < 0 ∨ R 1 ≤ p then (-10000001, R, 0) else if v < 0 then (-10000002, R, 0) else if v ≤ 100000 then (if R 0 = 4 then (if wnB R p.toNatClampNeg = true then (if v ≤ R (16 + p.toNatClampNeg) then (nn (cntN (wnB (wfI R p.toNatClampNeg v)) (rN R)), wfR R p.toNatClampNeg v, 0) else (-10000003, R, 5)) else (-10000003, R, 6)) else (-10000003, R, 1)) else (-10000002, R, 0)
theorem wfR_e (R : Nat → Int32) (p : Nat) (v : Int32) : wfR R p v 0 = (if cntN (wnB (wfI R p v)) (rN R) = 0 then 5 else 4) ∧ wfR R p v (22 + p) = v ∧ ∀ j, j ≠ 0 → j ≠ 22 + p → wfR R p v j = R j :=
  ⟨rfl, by unfold wfR wfI; rw [u1_n _ _ _ _ (by omega), u1_s], fun j h1 h2 => by unfold wfR wfI; rw [u1_n _ _ _ _ h1, u1_n _ _ _ _ h2]⟩
theorem m1_neg : ((-1 : Int32) < 0) = True := by decide
theorem GD_wfi {R : Nat → Int32} (hG : GD R) (h4 : R 0 = 4) {p : Nat} (hp : p < rN R) {w : Nat} (hw : w ≤ 100000) : GD (wfR R p (nn w)) := by
  have h6 := hG.1.2
  obtain ⟨e0, ep, uo⟩ := wfR_e R p (nn w)
  have hI : ∀ k, k < 6 → wfR R p (nn w) (22 + k) = wfI R p (nn w) (22 + k) := fun k hk => by unfold wfR; rw [u1_n _ _ _ _ (by omega)]
  have hI13 : wfI R p (nn w) 13 = R 13 := by unfold wfI; rw [u1_n _ _ _ _ (by omega)]
  generalize wfR R p (nn w) = R' at e0 ep uo hI
  have e0c : R' 0 = 5 ∨ R' 0 = 4 := by
    rw [e0]
    by_cases g : cntN (wnB (wfI R p (nn w))) (rN R) = 0
    · rw [if_pos g]; exact Or.inl rfl
    · rw [if_neg g]; exact Or.inr rfl
  obtain ⟨⟨a1, a2⟩, ⟨a3, a4⟩, a5, a6, a7, a8, a9, a10, a11, a12, a13, a14, a15, a16, a17, a18⟩ := id hG
  refine GD_ph hG (fun j hj => uo j (by omega) (by omega)) ?_ ?_ ?_ (fun _ => by omega) ?_ ?_ ?_ ?_ ?_ ?_
  · rcases e0c with h | h
    · exact ⟨5, by omega, h⟩
    · exact ⟨4, by omega, h⟩
  · rcases e0c with h | h <;> rw [h] <;> intro h <;> exact absurd h (by decide)
  · intro _; rw [uo 2 (by decide) (by omega)]; exact a8 (by rw [h4]; decide)
  · rw [uo 12 (by decide) (by omega)]; exact a11
  · rw [uo 13 (by decide) (by omega), uo 14 (by decide) (by omega)]; exact a13
  · intro p' hp'; rw [uo 13 (by decide) (by omega), uo _ (by omega) (by omega)]; exact a14 p' hp'
  · intro p' hp'
    by_cases g : p' = p
    · subst g; exact Or.inr ⟨w, hw, ep⟩
    · rw [uo _ (by omega) (by omega)]; exact a15 p' hp'
  · intro h5 p' hp' hb
    rw [uo 13 (by decide) (by omega)] at hb
    rw [h5] at e0
    by_cases g : cntN (wnB (wfI R p (nn w))) (rN R) = 0
    · have := (cntN_0 _).mp g p' (by
        rcases Nat.lt_or_ge p' (rN R) with h | h
        · exact h
        · rw [(a13 p' h).1] at hb; cases hb)
      unfold wnB at this
      rw [hI13, hb, Bool.true_and, decide_eq_false_iff_not] at this
      intro h
      rw [hI p' hp'] at h
      rw [h] at this
      exact this (by decide)
    · rw [if_neg g] at e0; exact absurd e0 (by decide)
  · intro _; rw [uo 14 (by decide) (by omega)]; exact a17 h4
theorem GD_aWf {R : Nat → Int32} (hG : GD R) (p v : Int32) : GD (aWf R p v).2.1 := by
  unfold aWf
  by_cases h0 : p < 0 ∨ R 1 ≤ p
  · rw [if_pos h0]; exact hG
  rw [if_neg h0]
  by_cases h1 : v < 0
  · rw [if_pos h1]; exact hG
  rw [if_neg h1]
  by_cases h2 : v ≤ 100000
  · rw [if_pos h2]
    by_cases h3 : R 0 = 4
    · rw [if_pos h3]
      by_cases h4 : wnB R p.toNatClampNeg = true
      · rw [if_pos h4]
        by_cases h5 : v ≤ R (16 + p.toNatClampNeg)
        · rw [if_pos h5]
          obtain ⟨w, hw, rfl⟩ := wag_arg h1 h2
          rcases pl_cases hG p with h | ⟨k, hk, rfl⟩
          · exact absurd h h0
          · rw [tn_nn _ (by have := hG.1.2; omega)]; exact GD_wfi hG h3 hk hw
        · rw [if_neg h5]; exact hG
      · rw [if_neg h4]; exact hG
    · rw [if_neg h3]; exact hG
  · rw [if_neg h2]; exact hG
/-- the class's wanting, by the row -/
theorem wn_c {R : Nat → Int32} {x y : Int32} {p : Nat} (h14 : bt (R 13) p = true → 0 < R (16 + p)) (h15 : R (22 + p) = -1 ∨ ∃ w, w ≤ 100000 ∧ R (22 + p) = nn w) (hx : x = if bt (R 13) p = true then R (16 + p) else 0) (hy : y = orN (R (22 + p))) : (if x ≤ 0 then 0 else if y = -10000005 then 1 else 0 : Int32) = if wnB R p = true then 1 else 0 := by
  unfold wnB
  cases hb : bt (R 13) p
  · rw [hb, if_neg (by decide)] at hx
    rw [hx, if_pos (Int32.le_refl _)]; rfl
  · rw [hb, if_pos rfl] at hx
    have : ¬ x ≤ 0 := by rw [hx]; exact Int32.not_le.mpr (h14 hb)
    rw [if_neg this, Bool.true_and]
    rcases h15 with h | ⟨w, hw, h⟩
    · rw [hy, h, orN_m]; rfl
    · rw [hy, h, orN_n _ (by omega), if_neg (nn_nn w (by omega)), decide_eq_false (nn_neg w (by omega))]; rfl
theorem s108 {R : Nat → Int32} {im : zI} {lm : zJ} (h : ∀ p, p < 6 → (if im 24 p ≤ 0 then 0 else if im 25 p = -10000005 then 1 else 0 : Int32) = if wnB R p = true then 1 else 0) : ∀ d k n, k + d = 6 → d < n → F_108_4 n (nn (cntN (wnB R) k)) (nn k) im lm = some (nn (cntN (wnB R) 6), im, lm) := by
  intro d
  induction d with
  | zero =>
    intro k n hk hn
    obtain ⟨m, rfl⟩ : ∃ m, n = m + 1 := ⟨n - 1, by omega⟩
    have : k = 6 := by omega
    subst this
    unfold F_108_4
    rw [if_pos (show (6 : Int32) ≤ nn 6 from Int32.le_refl _)]
  | succ d ih =>
    intro k n hk hn
    obtain ⟨m, rfl⟩ : ∃ m, n = m + 1 := ⟨n - 1, by omega⟩
    have h0 : ¬ ((6 : Int32) ≤ nn k) := nn_ge k 6 (by omega) (by omega)
    unfold F_108_4 m_107
    rw [if_neg h0]
    simp (disch := omega) only [nn_mull, nn_mulr, nn_addl, nn_addr, nn_add, nn_mul, tn_nn, tn_l, inb_nn, inb_l, zCk_t, ite_self, zBd_s]
    rw [h k (by omega), ← ih (k + 1) m (by omega) (by omega)]
    congr 1
    show _ = nn (cntN (wnB R) k + (if wnB R k = true then 1 else 0))
    cases wnB R k
    · rfl
    · rfl
theorem wn_6 {Q R : Nat → Int32} (h6 : rN R ≤ 6) (h : ∀ i, rN R ≤ i → bt (Q 13) i = false) : cntN (wnB Q) 6 = cntN (wnB Q) (rN R) := by
  have := cntN_z (f := wnB Q) (n := rN R) (6 - rN R) (fun i hi => by unfold wnB; rw [h i hi]; rfl)
  rwa [show rN R + (6 - rN R) = 6 by omega] at this
theorem DoA_wf {R : Nat → Int32} (hG : GD R) (p v : Int32) : DoA (m_109 p v) R (aWf R p v) := by
  have h6 := hG.1.2
  rcases pl_cases hG p with h | ⟨k, hk, rfl⟩
  · refine DoA_mk (by unfold aWf; rw [if_pos h]) (ret_D' _ fun im lm q hn => ?_)
    have b2 := hn.1.1.2.1
    unfold m_109; rw [b2, (pl_no hG h).1, if_pos rfl]
  have hnp : ¬ (nn k < 0 ∨ R 1 ≤ nn k) := by
    rintro (h | h)
    · exact nn_neg k (by omega) h
    · rw [hG.1.1] at h; exact nn_ge k _ hk (by omega) h
  have htn : Int32.toNatClampNeg (nn k) = k := tn_nn k (by omega)
  have py := (pl_yes hG hk).1
  by_cases h1 : v < 0
  · refine DoA_mk (by unfold aWf; rw [if_neg hnp, if_pos h1]) (ret_D' _ fun im lm q hn => ?_)
    have b2 := hn.1.1.2.1
    unfold m_109; rw [b2, py, if_neg (by decide), if_pos h1]
  by_cases h2 : v ≤ 100000
  · by_cases h3 : R 0 = 4
    · obtain ⟨⟨a1, a2⟩, ⟨a3, a4⟩, a5, a6, a7, a8, a9, a10, a11, a12, a13, a14, a15, a16, a17, a18⟩ := id hG
      have hw : ∀ im lm q, NW im lm R q → (if im 24 k ≤ 0 then 0 else if im 25 k = -10000005 then 1 else 0 : Int32) = if wnB R k = true then 1 else 0 := fun im lm q hn => wn_c (a14 k (by omega)) (a15 k (by omega)) (hn.1.2.2.2.2.2.2.1 k (by omega)).2 (hn.1.2.2.2.2.2.2.1 k (by omega)).1
      have m107 : ∀ im lm q, NW im lm R q → m_107 (nn k) im lm = some (if wnB R k = true then 1 else 0, im, lm) := fun im lm q hn => by
        unfold m_107
        simp (disch := omega) only [nn_mull, nn_mulr, nn_addl, nn_addr, nn_add, nn_mul, tn_nn, tn_l, inb_nn, inb_l, zCk_t, ite_self, zBd_s]
        rw [hw im lm q hn]
      by_cases h4 : wnB R k = true
      · have hb : bt (R 13) k = true := by unfold wnB at h4; simp only [Bool.and_eq_true] at h4; exact h4.1
        have h24 : ∀ im lm q, NW im lm R q → im 24 k = R (16 + k) := fun im lm q hn => by
          have := (hn.1.2.2.2.2.2.2.1 k (by omega)).2
          rw [hb, if_pos rfl] at this; exact this
        by_cases h5 : v ≤ R (16 + k)
        · refine DoA_mk (by unfold aWf; rw [if_neg hnp, if_neg h1, if_pos h2, if_pos h3, htn, if_pos h4, if_pos h5]) ?_
          intro q im lm hn
          obtain ⟨w, hw', rfl⟩ := wag_arg h1 h2
          obtain ⟨e0, ep, uo⟩ := wfR_e R k (nn w)
          have hG' := GD_wfi hG h3 hk hw'
          obtain ⟨⟨⟨b1, b2, b3, b4⟩, b5, ⟨b6, b7⟩, b8, b9, b10, b11, b12, b13⟩, _⟩ := id hn
          have hI : ∀ j, j ≠ 0 → wfI R k (nn w) j = wfR R k (nn w) j := fun j hj => by unfold wfR; rw [u1_n _ _ _ _ hj]
          have hI13 : wfI R k (nn w) 13 = R 13 := by unfold wfI; rw [u1_n _ _ _ _ (by omega)]
          have hc11 : ∀ p, p < 6 → zeU2 im 25 k (nn w) 25 p = orN (wfR R k (nn w) (22 + p)) ∧ im 24 p = if bt (wfR R k (nn w) 13) p = true then wfR R k (nn w) (16 + p) else 0 := by
            intro p hp
            rw [uo 13 (by decide) (by omega), uo (16 + p) (by omega) (by omega)]
            refine ⟨?_, (b11 p hp).2⟩
            by_cases g : p = k
            · subst g; rw [u2_s, ep, orN_n _ (by omega)]
            · rw [u2_j _ _ _ _ _ _ g, uo _ (by omega) (by omega)]; exact (b11 p hp).1
          have hwn : ∀ p, p < 6 → (if (zeU2 im 25 k (nn w)) 24 p ≤ 0 then 0 else if (zeU2 im 25 k (nn w)) 25 p = -10000005 then 1 else 0 : Int32) = if wnB (wfI R k (nn w)) p = true then 1 else 0 := by
            intro p hp
            have e : wnB (wfI R k (nn w)) p = wnB (wfR R k (nn w)) p := by unfold wnB; rw [hI 13 (by decide), hI (22 + p) (by omega)]
            rw [e, u2n _ _ _ _ 24 (by decide)]
            exact wn_c (hG'.2.2.2.2.2.2.2.2.2.2.2.1 p hp) (hG'.2.2.2.2.2.2.2.2.2.2.2.2.1 p hp) (hc11 p hp).2 (hc11 p hp).1
          have h108 := s108 (lm := lm) hwn 6 0 2000 rfl (by omega)
          rw [wn_6 (R := R) h6 (fun i hi => by rw [hI13]; exact (a13 i hi).1)] at h108
          have hz : (nn (cntN (wnB (wfI R k (nn w))) (rN R)) = 0) = (cntN (wnB (wfI R k (nn w))) (rN R) = 0) := by
            rw [show (0 : Int32) = nn 0 from rfl]; exact nn_inj _ _ (by have := cntN_le (wnB (wfI R k (nn w))) (rN R); omega) (by omega)
          have him : (if cntN (wnB (wfI R k (nn w))) (rN R) = 0 then zeU2 (zeU2 im 25 k (nn w)) 17 0 5 else zeU2 im 25 k (nn w)) = zeU2 (zeU2 im 25 k (nn w)) 17 0 (if cntN (wnB (wfI R k (nn w))) (rN R) = 0 then 5 else 4) := by
            by_cases g : cntN (wnB (wfI R k (nn w))) (rN R) = 0
            · rw [if_pos g, if_pos g]
            · rw [if_neg g, if_neg g]
              funext a j
              rw [u2_e _ 17]
              by_cases g2 : a = 17 ∧ j = 0
              · rw [if_pos g2, g2.1, g2.2, u2n _ _ _ _ _ (by decide), b1, h3]
              · rw [if_neg g2]
          refine ⟨zeU2 (zeU2 im 25 k (nn w)) 17 0 (if cntN (wnB (wfI R k (nn w))) (rN R) = 0 then 5 else 4), lm, ?_, ?_, ⟨fun a j h1 h2 => by rw [u2n _ _ _ _ _ (by omega), u2n _ _ _ _ _ (by omega)], fun _ _ _ => rfl⟩⟩
          · unfold m_109 m_108
            rw [b2, py, if_neg (by decide), if_neg h1, if_pos h2, b1, if_pos h3, m107 im lm q hn, zBd_s, if_pos h4, if_neg (by decide)]
            simp (disch := omega) only [nn_mull, nn_mulr, nn_addl, nn_addr, nn_add, nn_mul, tn_nn, tn_l, inb_nn, inb_l, zCk_t, ite_self, zBd_s]
            rw [h24 im lm q hn, if_pos h5, show F_108_4 2000 0 0 (zeU2 im 25 k (nn w)) lm = _ from h108, zBd_s]
            simp only [hz]
            rw [him]
          · refine NW_ph (fun j hj => uo j (by omega) (by omega)) (fun a ha => by rw [u2n _ _ _ _ _ (by omega), u2n _ _ _ _ _ (by omega)]) (by rw [u2_s, e0]) (fun j hj => by rw [u2_j _ _ _ _ _ _ (by omega), u2n _ _ _ _ _ (by decide)]) ?_ ?_ ?_ ?_ ?_ ?_ hn
            · rw [e0]; intro h
              by_cases gz : cntN (wnB (wfI R k (nn w))) (rN R) = 0
              · rw [if_pos gz] at h; exact absurd h (by decide)
              · rw [if_neg gz] at h; exact absurd h (by decide)
            · rw [e0]; intro h
              by_cases gz : cntN (wnB (wfI R k (nn w))) (rN R) = 0
              · rw [if_pos gz] at h; exact absurd h (by decide)
              · rw [if_neg gz] at h; exact absurd h (by decide)
            · rw [e0]
              by_cases gz : cntN (wnB (wfI R k (nn w))) (rN R) = 0
              · rw [if_pos gz]; decide
              · rw [if_neg gz]; decide
            · intro p hp
              rw [u2n _ _ _ _ 25 (by decide), u2n _ _ _ _ 24 (by decide), u2n _ _ _ _ 24 (by decide)]
              exact hc11 p hp
            · intro _
              refine ⟨0, ?_, ?_, ?_⟩
              · rw [u2n _ _ _ _ _ (by decide), u2n _ _ _ _ _ (by decide)]
                exact b13 (Or.inr (Or.inr (Or.inr (Or.inr h3))))
              · rcases Nat.eq_zero_or_pos (cntN (ptB (wfR R k (nn w))) 6) with h | h
                · have := (cntN_0 6).mp h k (by omega)
                  unfold ptB at this
                  rw [uo 13 (by decide) (by omega), hb] at this; cases this
                · exact h
              · intro p hp _
                rw [uo 14 (by decide) (by omega), a17 h3, b_0]
                exact ⟨fun h => (by cases h), fun h => absurd h (Nat.not_lt_zero _)⟩
            · intro _; rw [u2n _ _ _ _ _ (by decide), u2n _ _ _ _ _ (by decide)]; exact b13 (Or.inr (Or.inr (Or.inr (Or.inr h3))))
        · refine DoA_mk (by unfold aWf; rw [if_neg hnp, if_neg h1, if_pos h2, if_pos h3, htn, if_pos h4, if_neg h5]) (ref_D' hG 5 (by decide) fun im lm q hn => ?_)
          have b1 := hn.1.1.1
          have b2 := hn.1.1.2.1
          unfold m_109
          rw [b2, py, if_neg (by decide), if_neg h1, if_pos h2, b1, if_pos h3, m107 im lm q hn, zBd_s, if_pos h4, if_neg (by decide)]
          simp (disch := omega) only [nn_mull, nn_mulr, nn_addl, nn_addr, nn_add, nn_mul, tn_nn, tn_l, inb_nn, inb_l, zCk_t, ite_self, zBd_s]
          rw [h24 im lm q hn, if_neg h5]; rfl
      · refine DoA_mk (by unfold aWf; rw [if_neg hnp, if_neg h1, if_pos h2, if_pos h3, htn, if_neg h4]) (ref_D' hG 6 (by decide) fun im lm q hn => ?_)
        have b1 := hn.1.1.1
        have b2 := hn.1.1.2.1
        unfold m_109
        rw [b2, py, if_neg (by decide), if_neg h1, if_pos h2, b1, if_pos h3, m107 im lm q hn, zBd_s, if_neg h4, if_pos rfl]; rfl
    · refine DoA_mk (by unfold aWf; rw [if_neg hnp, if_neg h1, if_pos h2, if_neg h3]) (ref_D' hG 1 (by decide) fun im lm q hn => ?_)
      have b1 := hn.1.1.1
      have b2 := hn.1.1.2.1
      unfold m_109; rw [b2, py, if_neg (by decide), if_neg h1, if_pos h2, b1, if_neg h3]; rfl
  · refine DoA_mk (by unfold aWf; rw [if_neg hnp, if_neg h1, if_neg h2]) (ret_D' _ fun im lm q hn => ?_)
    have b2 := hn.1.1.2.1
    unfold m_109; rw [b2, py, if_neg (by decide), if_neg h1, if_neg h2]
