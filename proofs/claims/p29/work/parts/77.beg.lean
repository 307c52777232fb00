/-! ACTS: beginFinal *-/
def ptS (R : Nat → Int32) (p : Nat) (x : Int32) : Int32 := x ||| (if sc R p ≤ 0 then (0 : Int32) else 1 <<< (nn p &&& 31))
def ptW (R : Nat → Int32) (n : Nat) : Int32 := zIt (ptS R) n 0 0
theorem ptW_bit (R : Nat → Int32) : ∀ n, n ≤ 6 → ∀ i, bt (ptW R n) i = (decide (i < n) && !decide (sc R i ≤ 0)) := by
  intro n
  induction n with
  | zero => intro _ i; show bt 0 i = _; rw [b_0]; simp
  | succ n ih =>
    intro hn i
    have ih := ih (by omega) i
    unfold ptW at ih ⊢
    rw [zIt_last, Nat.zero_add]
    unfold ptS at ih ⊢
    rw [b_or, ih]
    by_cases g : sc R n ≤ 0
    · rw [if_pos g, b_0, Bool.or_false]
      by_cases h : i = n
      · subst h; simp [g]
      · have : (i < n) = (i < n + 1) := by apply propext; omega
        simp only [this]
    · rw [if_neg g, b_sh1 _ (by omega)]
      by_cases h : i = n
      · subst h; simp [g]
      · have : (i < n) = (i < n + 1) := by apply propext; omega
        simp only [this, h, decide_false, Bool.or_false]
def begR (R : Nat → Int32) : Nat → Int32 := fun j => if j = 0 then (if ptW R (rN R) = 0 then 6 else 4) else if j = 13 then ptW R (rN R) else if j = 14 then 0 else if 16 ≤ j ∧ j < 16 + rN R then sc R (j - 16) else R j
theorem begR_e {R : Nat → Int32} (h6 : rN R ≤ 6) : begR R 0 = (if ptW R (rN R) = 0 then 6 else 4) ∧ begR R 13 = ptW R (rN R) ∧ begR R 14 = 0 ∧ (∀ p, p < rN R → begR R (16 + p) = sc R p) ∧ ∀ j, j ≠ 0 → j ≠ 13 → j ≠ 14 → (j < 16 ∨ 16 + rN R ≤ j) → begR R j = R j := by
  refine ⟨rfl, rfl, rfl, ?_, ?_⟩
  · intro p hp
    unfold begR
    rw [if_neg (by omega), if_neg (by omega), if_neg (by omega), if_pos (by omega), Nat.add_sub_cancel_left]
  · intro j h1 h2 h3 h4
    unfold begR
    rw [if_neg h1, if_neg h2, if_neg h3, if_neg (by omega)]
def aBeg (R : Nat → Int32) : zA := if rN R = 0 then (-10000003, R, 8) else if R 0 = 0 then (nn (pop (ptW R (rN R))), begR R, 0) else (-10000003, R, 1)
theorem GD_beg {R : Nat → Int32} (hG : GD R) (h0 : R 0 = 0) (hN : ¬ rN R = 0) : GD (begR R) := by
  have h6 := hG.1.2
  obtain ⟨e0, e13, e14, e16, uo⟩ := begR_e h6
  have hb := ptW_bit R (rN R) h6
  generalize begR R = R' at e0 e13 e14 e16 uo
  have e0c : R' 0 = 6 ∨ R' 0 = 4 := by
    rw [e0]
    by_cases g : ptW R (rN R) = 0
    · rw [if_pos g]; exact Or.inl rfl
    · rw [if_neg g]; exact Or.inr rfl
  obtain ⟨⟨a1, a2⟩, ⟨a3, a4⟩, a5, a6, a7, a8, a9, a10, a11, a12, a13, a14, a15, a16, a17, a18⟩ := id hG
  refine GD_ph hG (fun j hj => uo j (by omega) (by omega) (by omega) (by omega)) ?_ ?_ ?_ (fun _ => by omega) ?_ ?_ ?_ ?_ ?_ ?_
  · rcases e0c with h | h
    · exact ⟨6, by omega, h⟩
    · exact ⟨4, by omega, h⟩
  · rcases e0c with h | h <;> rw [h] <;> intro h <;> exact absurd h (by decide)
  · intro _; rw [uo 2 (by decide) (by decide) (by decide) (by omega)]; exact a8 (by rw [h0]; decide)
  · rw [uo 12 (by decide) (by decide) (by decide) (by omega)]; exact a11
  · intro i hi
    rw [e13, e14, hb, decide_eq_false (by omega), b_0]; exact ⟨rfl, rfl⟩
  · intro p hp h
    rw [e13, hb] at h
    simp only [Bool.and_eq_true, decide_eq_true_eq, Bool.not_eq_true', decide_eq_false_iff_not] at h
    rw [e16 p h.1]
    exact Int32.not_le.mp h.2
  · intro p hp; rw [uo _ (by omega) (by omega) (by omega) (by omega)]; exact a15 p hp
  · rcases e0c with h | h <;> rw [h] <;> intro h <;> exact absurd h (by decide)
  · intro _; exact e14
theorem GD_aBeg {R : Nat → Int32} (hG : GD R) : GD (aBeg R).2.1 := by
  unfold aBeg
  by_cases g : rN R = 0
  · rw [if_pos g]; exact hG
  rw [if_neg g]
  by_cases g0 : R 0 = 0
  · rw [if_pos g0]; exact GD_beg hG g0 g
  · rw [if_neg g0]; exact hG
theorem cntN_z {f : Nat → Bool} {n : Nat} : ∀ m, (∀ i, n ≤ i → f i = false) → cntN f (n + m) = cntN f n := by
  intro m h
  rw [cntN_add]
  have : cntN (fun i => f (n + i)) m = 0 := by
    induction m with
    | zero => rfl
    | succ m ih => unfold cntN; rw [ih, h _ (by omega)]; rfl
  omega
theorem cntN_0 {f : Nat → Bool} : ∀ n, cntN f n = 0 ↔ ∀ i, i < n → f i = false := by
  intro n
  induction n with
  | zero => exact ⟨fun _ i h => absurd h (Nat.not_lt_zero i), fun _ => rfl⟩
  | succ n ih =>
    unfold cntN
    by_cases g : f n = true
    · rw [if_pos g]
      exact ⟨fun h => by omega, fun h => by rw [h n (by omega)] at g; cases g⟩
    · rw [if_neg g]
      constructor
      · intro h i hi
        by_cases g2 : i = n
        · subst g2; simpa using g
        · exact ih.mp (by omega) i (by omega)
      · intro h
        have := ih.mpr (fun i hi => h i (by omega)); omega
theorem ptW_pop {R : Nat → Int32} (h6 : rN R ≤ 6) : pop (ptW R (rN R)) = cntN (fun i => bt (ptW R (rN R)) i) 6 := by
  unfold pop
  exact cntN_z (n := 6) 19 (fun i hi => by rw [ptW_bit R _ h6, decide_eq_false (by omega)]; rfl)
theorem ptW_0 {R : Nat → Int32} (h6 : rN R ≤ 6) : ptW R (rN R) = 0 ↔ pop (ptW R (rN R)) = 0 := by
  rw [ptW_pop h6, cntN_0]
  constructor
  · intro h i _; rw [h, b_0]
  · intro h
    apply b_ext
    intro i hi
    rw [b_0]
    by_cases g : i < 6
    · exact h i g
    · rw [ptW_bit R _ h6, decide_eq_false (by omega)]; rfl
theorem s103 (lm : zJ) : ∀ d k n (im : zI), k + d = 6 → d < n → ∃ im', F_103_2 n (nn k) im lm = some (0, im', lm) ∧ (∀ a, a ≠ 24 → im' a = im a) ∧ ∀ j, im' 24 j = if k ≤ j ∧ j < 6 then (if im 33 j < 0 then 0 else im 33 j) else im 24 j := by
  intro d
  induction d with
  | zero =>
    intro k n im hk hn
    obtain ⟨m, rfl⟩ : ∃ m, n = m + 1 := ⟨n - 1, by omega⟩
    have : k = 6 := by omega
    subst this
    unfold F_103_2
    rw [if_pos (show (6 : Int32) ≤ nn 6 from Int32.le_refl _)]
    exact ⟨im, rfl, fun _ _ => rfl, fun j => by rw [if_neg (by omega)]⟩
  | succ d ih =>
    intro k n im hk hn
    obtain ⟨m, rfl⟩ : ∃ m, n = m + 1 := ⟨n - 1, by omega⟩
    have h0 : ¬ ((6 : Int32) ≤ nn k) := nn_ge k 6 (by omega) (by omega)
    obtain ⟨im', h1, h2, h3⟩ := ih (k + 1) m (zeU2 im 24 k (if im 33 k < 0 then 0 else im 33 k)) (by omega) (by omega)
    refine ⟨im', ?_, ?_, ?_⟩
    · unfold F_103_2
      rw [if_neg h0]
      simp (disch := omega) only [nn_mull, nn_mulr, nn_addl, nn_addr, nn_add, nn_mul, tn_nn, tn_l, inb_nn, inb_l, zCk_t, ite_self, zBd_s]
      exact h1
    · intro a ha; rw [h2 a ha, u2n _ _ _ _ _ ha]
    · intro j
      rw [h3, u2n _ _ _ _ _ (by decide), u2_e]
      by_cases g : j = k
      · subst g
        rw [if_neg (show ¬ (j + 1 ≤ j ∧ j < 6) by omega), if_pos (show 24 = 24 ∧ j = j from ⟨rfl, rfl⟩), if_pos (show j ≤ j ∧ j < 6 by omega)]
      · rw [if_neg (show ¬ (24 = 24 ∧ j = k) from fun h => g h.2)]
        by_cases g2 : k + 1 ≤ j ∧ j < 6
        · rw [if_pos g2, if_pos (show k ≤ j ∧ j < 6 by omega)]
        · rw [if_neg g2, if_neg (show ¬ (k ≤ j ∧ j < 6) by omega)]
theorem s83 (im : zI) (lm : zJ) : ∀ d k n, k + d = 6 → d < n → F_83_13 n (nn (cntN (fun p => !decide (im 24 p ≤ 0)) k)) 6 (nn k) im lm = some (nn (cntN (fun p => !decide (im 24 p ≤ 0)) 6), im, lm) := by
  intro d
  induction d with
  | zero =>
    intro k n hk hn
    obtain ⟨m, rfl⟩ : ∃ m, n = m + 1 := ⟨n - 1, by omega⟩
    have : k = 6 := by omega
    subst this
    unfold F_83_13
    rw [if_pos (show (6 : Int32) ≤ nn 6 from Int32.le_refl _)]
  | succ d ih =>
    intro k n hk hn
    obtain ⟨m, rfl⟩ : ∃ m, n = m + 1 := ⟨n - 1, by omega⟩
    have h0 : ¬ ((6 : Int32) ≤ nn k) := nn_ge k 6 (by omega) (by omega)
    unfold F_83_13
    rw [if_neg h0]
    simp (disch := omega) only [nn_mull, nn_mulr, nn_addl, nn_addr, nn_add, nn_mul, tn_nn, tn_l, inb_nn, inb_l, zCk_t, ite_self, zBd_s]
    rw [← ih (k + 1) m (by omega) (by omega)]
    congr 1
    show _ = nn (cntN (fun p => !decide (im 24 p ≤ 0)) k + (if (!decide (im 24 k ≤ 0)) = true then 1 else 0))
    by_cases g : im 24 k ≤ 0
    · rw [if_pos g, if_neg (by simp [g])]; rfl
    · rw [if_neg g, if_pos (by simp [g])]
theorem GD_sc0 {R : Nat → Int32} (hG : GD R) {q : Nat} (h : rN R ≤ q) : sc R q = 0 := zsc_0 (fun k hk => (hG.2.2.1 k hk).2) _ (Nat.le_refl _) q h
theorem max0 (x : Int32) : (if x < 0 then 0 else x) = if x ≤ 0 then 0 else x := max_e x 0
theorem DoA_beg {R : Nat → Int32} (hG : GD R) : DoA m_104 R (aBeg R) := by
  have h6 := hG.1.2
  have hN1 := hG.1.1
  by_cases g : rN R = 0
  · refine DoA_mk (by unfold aBeg; rw [if_pos g]) (ref_D' hG 8 (by decide) fun im lm q hn => ?_)
    have b2 := hn.1.1.2.1
    unfold m_104; rw [b2, hN1, g, if_pos (by decide)]; rfl
  have gn : ¬ nn (rN R) = 0 := by rw [show (0 : Int32) = nn 0 from rfl, nn_inj _ _ (by omega) (by omega)]; exact g
  by_cases g0 : R 0 = 0
  · refine DoA_mk (by unfold aBeg; rw [if_neg g, if_pos g0]) ?_
    intro q im lm hn
    obtain ⟨e0, e13, e14, e16, uo⟩ := begR_e h6
    have hb := ptW_bit R (rN R) h6
    obtain ⟨⟨⟨b1, b2, b3, b4⟩, b5, ⟨b6, b7⟩, b8, b9, b10, b11, b12, b13⟩, hv, _⟩ := id hn
    obtain ⟨im1, k1, k2, k3⟩ := s103 lm 6 0 2000 im rfl (by omega)
    have k3' : ∀ p, p < 6 → im1 24 p = if bt (ptW R (rN R)) p = true then sc R p else 0 := by
      intro p hp
      rw [k3, if_pos (by omega), (hv.2.1 p hp).1, hb, max0]
      show (if sc R p ≤ 0 then 0 else sc R p) = _
      by_cases hp2 : p < rN R
      · by_cases hs : sc R p ≤ 0
        · simp [hp2, hs]
        · simp [hp2, hs]
      · rw [GD_sc0 hG (by omega)]; simp
    have hm : cntN (fun p => !decide (im1 24 p ≤ 0)) 6 = pop (ptW R (rN R)) := by
      rw [ptW_pop h6]
      refine cntN_c 6 fun p hp => ?_
      rw [k3' p hp]
      have hbp := hb p
      cases hbb : bt (ptW R (rN R)) p
      · simp
      · rw [hbb] at hbp
        have : ¬ sc R p ≤ 0 := by
          have h := hbp.symm
          simp only [Bool.and_eq_true, decide_eq_true_eq, Bool.not_eq_true', decide_eq_false_iff_not] at h
          exact h.2
        simp [this]
    have h83 := s83 im1 lm 6 0 2000 rfl (by omega)
    rw [hm] at h83
    have hz : (nn (pop (ptW R (rN R))) = 0) = (ptW R (rN R) = 0) := by
      apply propext
      rw [ptW_0 h6, show (0 : Int32) = nn 0 from rfl, nn_inj _ _ (by have := pop_le (ptW R (rN R)); omega) (by omega)]
    refine ⟨zeU2 im1 17 0 (begR R 0), lm, ?_, ?_, ⟨fun a j h1 h2 => by rw [u2n _ _ _ _ _ (by omega), k2 a (by omega)], fun _ _ _ => rfl⟩⟩
    · unfold m_104 m_103 m_83 J_104_75
      rw [b2, hN1, if_neg gn, b1, if_pos g0, show F_103_2 2000 0 im lm = _ from k1, zBd_s]
      rw [show F_83_13 2000 0 6 0 im1 lm = _ from h83, zBd_s, e0]
      simp only [hz]
    · refine NW_ph (fun j hj => uo j (by omega) (by omega) (by omega) (by omega)) (fun a ha => by rw [u2n _ _ _ _ _ (by omega), k2 a (by omega)]) (u2_s _ _ _ _) (fun j hj => by rw [u2_j _ _ _ _ _ _ (by omega), k2 17 (by decide)]) ?_ ?_ ?_ ?_ ?_ ?_ hn
      · rw [e0]; intro h
        by_cases gz : ptW R (rN R) = 0
        · rw [if_pos gz] at h; exact absurd h (by decide)
        · rw [if_neg gz] at h; exact absurd h (by decide)
      · rw [e0]; intro h
        by_cases gz : ptW R (rN R) = 0
        · rw [if_pos gz] at h; exact absurd h (by decide)
        · rw [if_neg gz] at h; exact absurd h (by decide)
      · rw [e0]
        by_cases gz : ptW R (rN R) = 0
        · rw [if_pos gz]; decide
        · rw [if_neg gz]; decide
      · intro p hp
        rw [u2n _ _ _ _ _ (by decide), u2n _ _ _ _ _ (by decide), k2 25 (by decide), uo _ (by omega) (by omega) (by omega) (by omega), k3' p hp, e13]
        refine ⟨(b11 p hp).1, ?_⟩
        cases hbb : bt (ptW R (rN R)) p
        · rfl
        · rw [hb] at hbb
          simp only [Bool.and_eq_true, decide_eq_true_eq] at hbb
          rw [if_pos rfl, if_pos rfl, e16 p hbb.1]
      · rw [e0]; intro h
        by_cases gz : ptW R (rN R) = 0
        · rw [if_pos gz] at h; exact absurd h (by decide)
        · rw [if_neg gz] at h; exact absurd h (by decide)
      · intro _; rw [u2n _ _ _ _ _ (by decide), k2 23 (by decide)]; exact b13 (Or.inl g0)
  · refine DoA_mk (by unfold aBeg; rw [if_neg g, if_neg g0]) (ref_D' hG 1 (by decide) fun im lm q hn => ?_)
    obtain ⟨b1, b2, _⟩ := hn.1.1
    unfold m_104; rw [b2, hN1, if_neg gn, b1, if_neg g0]; rfl
/-- the model's loop: k players are through -/
def begK (R : Nat → Int32) (k : Nat) (Q : Nat → Int32) : Prop := Q 13 = ptW R k ∧ Q 14 = 0 ∧ (∀ p, p < k → Q (16 + p) = sc R p) ∧ ∀ j, j ≠ 13 → j ≠ 14 → (j < 16 ∨ 16 + k ≤ j) → Q j = R j