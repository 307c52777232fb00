/-! ACTS: pick *-/
def pckR (R : Nat → Int32) (c : Nat) : Nat → Int32 := fun j => if j = 0 then (if bt (R 11) c = true then 2 else 1) else if j = 2 then nn c else if j = 3 then R 6 else if j = 4 then R 7 else if j = 10 then (R 10 ||| (1 <<< (nn c &&& 31))) else if j = 14 then 0 else if 30 ≤ j ∧ j < 54 then 0 else R j
theorem pckR_e (R : Nat → Int32) (c : Nat) : pckR R c 0 = (if bt (R 11) c = true then 2 else 1) ∧ pckR R c 2 = nn c ∧ pckR R c 3 = R 6 ∧ pckR R c 4 = R 7 ∧ pckR R c 10 = (R 10 ||| (1 <<< (nn c &&& 31))) ∧ pckR R c 14 = 0 ∧ (∀ j, 30 ≤ j → j < 54 → pckR R c j = 0) ∧ ∀ j, j ≠ 0 → j ≠ 2 → j ≠ 3 → j ≠ 4 → j ≠ 10 → j ≠ 14 → (j < 30 ∨ 54 ≤ j) → pckR R c j = R j := by
  refine ⟨rfl, rfl, rfl, rfl, rfl, rfl, ?_, ?_⟩
  · intro j h1 h2
    unfold pckR
    rw [if_neg (by omega), if_neg (by omega), if_neg (by omega), if_neg (by omega), if_neg (by omega), if_neg (by omega), if_pos ⟨h1, h2⟩]
  · intro j h1 h2 h3 h4 h5 h6 h7
    unfold pckR
    rw [if_neg h1, if_neg h2, if_neg h3, if_neg h4, if_neg h5, if_neg h6, if_neg (by omega)]
/-- value of a clue -/
def valC (c : Nat) : Nat := 100 * (c / 5 + 1)
theorem val_e (c : Nat) (h : c < 25) : (100 * (nn c / 5 + 1) : Int32) = nn (valC c) := by
  rw [div_l _ _ (by omega) (by decide), nn_addr, nn_mull]; rfl
/-- the check: code and reason -/
def cPck (R : Nat → Int32) (p c : Int32) : Int32 × Int32 := if p < 0 ∨ R 1 ≤ p then (-10000001, 0) else if c < 0 ∨ 25 ≤ c then (-10000001, 0) else if R 0 = 0 then (if p = nn (ctl R) then (if bt (R 10) c.toNatClampNeg = true then (-10000003, 3) else (0, 0)) else (-10000003, 2)) else (-10000003, 1)
def aPck (R : Nat → Int32) (p c : Int32) : zA := if (cPck R p c).1 < 0 then ((cPck R p c).1, R, (cPck R p c).2) else (nn (valC c.toNatClampNeg), pckR R c.toNatClampNeg, 0)
theorem GD_pck {R : Nat → Int32} (hG : GD R) (hN : 0 < rN R) (h0 : R 0 = 0) {c : Nat} (hc : c < 25) : GD (pckR R c) := by
  obtain ⟨e0, e2, e3, e4, e10, e14, eb, uo⟩ := pckR_e R c
  generalize pckR R c = R' at e0 e2 e3 e4 e10 e14 eb uo
  have h6 := hG.1.2
  have e0c : R' 0 = 2 ∨ R' 0 = 1 := by
    rw [e0]
    by_cases g : bt (R 11) c = true
    · rw [if_pos g]; exact Or.inl rfl
    · rw [if_neg g]; exact Or.inr rfl
  obtain ⟨⟨a1, a2⟩, ⟨a3, a4⟩, a5, a6, a7, a8, ⟨s6, s7, s8, s3, s4⟩, a10, a11, a12, a13, a14, a15, a16, a17, a18⟩ := id hG
  have u : ∀ j, (j = 1 ∨ (5 ≤ j ∧ j ≤ 9) ∨ (11 ≤ j ∧ j ≤ 13) ∨ (15 ≤ j ∧ j < 30) ∨ 54 ≤ j) → R' j = R j := fun j hj => uo j (by omega) (by omega) (by omega) (by omega) (by omega) (by omega) (by omega)
  have eN : rN R' = rN R := by unfold rN; rw [u 1 (by omega)]
  have eE : rE R' = rE R := by unfold rE; rw [u 5 (by omega)]
  have ag : agK R R' (rE R) := fun j h1 _ => u j (by omega)
  refine ⟨⟨by rw [u 1 (by omega), eN]; exact a1, by omega⟩, ⟨by rw [u 5 (by omega), eE]; exact a3, by omega⟩, ?_, ?_, ?_, ?_, ⟨?_, ?_, ?_, ?_, ?_⟩, ?_, ?_, ?_, ?_, ?_, ?_, ?_, ?_, ?_⟩
  · intro k hk
    rw [eE] at hk
    refine ⟨?_, by rw [eP_c ag hk, eN]; exact (a5 k hk).2⟩
    obtain ⟨h1, h2, h3⟩ := (a5 k hk).1
    unfold EG
    rw [eP_c ag hk, u (60 + 5 * k) (by omega), u (60 + 5 * k + 1) (by omega), u (60 + 5 * k + 2) (by omega), u (60 + 5 * k + 3) (by omega), u (60 + 5 * k + 4) (by omega), u 11 (by omega), e10]
    refine ⟨h1, ?_, h3⟩
    rcases h2 with ⟨c', g1, g2, g3, g4, g5, g6⟩ | h2
    · exact Or.inl ⟨c', g1, g2, g3, g4, by rw [b_set _ _ (by omega), g5]; rfl, g6⟩
    · exact Or.inr h2
  · rcases e0c with h | h
    · exact ⟨2, by omega, h⟩
    · exact ⟨1, by omega, h⟩
  · intro _
    refine ⟨c, hc, e2, ?_, by rw [e10, b_set _ _ (by omega)]; simp⟩
    rw [u 11 (by omega), e0]
    by_cases g : bt (R 11) c = true
    · rw [if_pos g]; exact ⟨fun _ => by decide, fun _ => g⟩
    · rw [if_neg g]; exact ⟨fun h => absurd h g, fun h => absurd rfl h⟩
  · intro h; rcases e0c with g | g
    · exact absurd (Or.inr (Or.inl g)) h
    · exact absurd (Or.inl g) h
  · rw [u 6 (by omega)]; exact s6
  · rw [u 7 (by omega)]; exact s7
  · rw [u 8 (by omega)]; exact s8
  · rw [e3]; exact s6
  · rw [e4]; exact s7
  · intro _; omega
  · rw [u 12 (by omega)]; exact a11
  · intro i hi
    rw [e10, u 11 (by omega), b_set _ _ (by omega), (a12 i hi).1, decide_eq_false (by omega)]; exact ⟨rfl, (a12 i hi).2⟩
  · intro i hi; rw [u 13 (by omega), e14, b_0]; exact ⟨(a13 i (by omega)).1, rfl⟩
  · intro p hp; rw [u 13 (by omega), u _ (by omega)]; exact a14 p hp
  · intro p hp; rw [u _ (by omega)]; exact a15 p hp
  · rcases e0c with h | h <;> rw [h] <;> intro h <;> exact absurd h (by decide)
  · rcases e0c with h | h <;> rw [h] <;> intro h <;> exact absurd h (by decide)
  · intro j hj; rw [u j (by omega)]; exact a18 j hj
/-- the check, in cases -/
theorem pck_cases {R : Nat → Int32} (hG : GD R) (p c : Int32) : ((p < 0 ∨ R 1 ≤ p) ∧ cPck R p c = (-10000001, 0)) ∨ (∃ k, k < rN R ∧ p = nn k ∧ ((c < 0 ∨ 25 ≤ c) ∧ cPck R p c = (-10000001, 0) ∨ ∃ x, x < 25 ∧ c = nn x ∧ ((¬ R 0 = 0 ∧ cPck R p c = (-10000003, 1)) ∨ (R 0 = 0 ∧ ((¬ k = ctl R ∧ cPck R p c = (-10000003, 2)) ∨ (k = ctl R ∧ ((bt (R 10) x = true ∧ cPck R p c = (-10000003, 3)) ∨ (bt (R 10) x = false ∧ cPck R p c = (0, 0))))))))) := by
  have h6 := hG.1.2
  rcases pl_cases hG p with h | ⟨k, hk, rfl⟩
  · exact Or.inl ⟨h, by unfold cPck; rw [if_pos h]⟩
  refine Or.inr ⟨k, hk, rfl, ?_⟩
  have hnp := ix_not hG.1.1 (by omega) hk
  rcases ix_cases (n := 25) (N := 25) rfl (by omega) c with h | ⟨x, hx, rfl⟩
  · exact Or.inl ⟨h, by unfold cPck; rw [if_neg hnp, if_pos h]⟩
  refine Or.inr ⟨x, hx, rfl, ?_⟩
  have hnc : ¬ (nn x < 0 ∨ 25 ≤ nn x) := ix_not (n := 25) (N := 25) rfl (by omega) hx
  by_cases h0 : R 0 = 0
  · refine Or.inr ⟨h0, ?_⟩
    have hcn : ctl R < rN R := (ctl_e hG (by omega)).2
    have hkc : (nn k = nn (ctl R)) = (k = ctl R) := nn_inj _ _ (by omega) (by omega)
    by_cases hk2 : k = ctl R
    · refine Or.inr ⟨hk2, ?_⟩
      cases hb : bt (R 10) x
      · exact Or.inr ⟨rfl, by unfold cPck; rw [if_neg hnp, if_neg hnc, if_pos h0, if_pos (by rw [hk2]), tn_nn _ (by omega), hb, if_neg (by decide)]⟩
      · exact Or.inl ⟨rfl, by unfold cPck; rw [if_neg hnp, if_neg hnc, if_pos h0, if_pos (by rw [hk2]), tn_nn _ (by omega), hb, if_pos rfl]⟩
    · exact Or.inl ⟨hk2, by unfold cPck; rw [if_neg hnp, if_neg hnc, if_pos h0, if_neg (by rw [hkc]; exact hk2)]⟩
  · exact Or.inl ⟨h0, by unfold cPck; rw [if_neg hnp, if_neg hnc, if_neg h0]⟩
theorem aPck_no {R : Nat → Int32} {p c r w : Int32} (h : cPck R p c = (r, w)) (hr : r < 0) : aPck R p c = (r, R, w) := by unfold aPck; rw [h, if_pos hr]
theorem aPck_ok {R : Nat → Int32} {p : Int32} {x : Nat} (hx : x < 25) (h : cPck R p (nn x) = (0, 0)) : aPck R p (nn x) = (nn (valC x), pckR R x, 0) := by unfold aPck; rw [h, if_neg (by decide), tn_nn _ (by omega)]
theorem GD_aPck {R : Nat → Int32} (hG : GD R) (p c : Int32) : GD (aPck R p c).2.1 := by
  rcases pck_cases hG p c with ⟨_, h⟩ | ⟨k, hk, rfl, ⟨_, h⟩ | ⟨x, hx, rfl, ⟨_, h⟩ | ⟨h0, ⟨_, h⟩ | ⟨_, ⟨_, h⟩ | ⟨_, h⟩⟩⟩⟩⟩
  · rw [aPck_no h (by decide)]; exact hG
  · rw [aPck_no h (by decide)]; exact hG
  · rw [aPck_no h (by decide)]; exact hG
  · rw [aPck_no h (by decide)]; exact hG
  · rw [aPck_no h (by decide)]; exact hG
  · rw [aPck_ok hx h]; exact GD_pck hG (by omega) h0 hx
/-! the class -/
theorem fst_none : ∀ d t, fstF (fun _ => false) d t = -1 := by
  intro d
  induction d with
  | zero => intro t; rfl
  | succ d ih => intro t; unfold fstF; rw [if_neg (by decide)]; exact ih _
theorem told_0 {R : Nat → Int32} (h : ∀ j, 30 ≤ j → j < 54 → R j = 0) {p t : Nat} (hp : p < 6) (ht : t < 100) : told R p t = false := by
  unfold told; rw [h _ (by omega) (by omega), b_0]
theorem cnt_0 {R : Nat → Int32} (h : ∀ j, 30 ≤ j → j < 54 → R j = 0) (hr : (R 3).toNatClampNeg ≤ 30) {p : Nat} (hp : p < 6) : cnt R p = -1 := by
  unfold cnt
  rw [cntF_c (told R p) (fun _ => false) _ _ (by omega) (fun i hi => told_0 h hp hi)]
  exact fst_none _ _
theorem s40 : ∀ d k n (im : zI) (lm : zJ), k + d = 6 → d < n → ∃ im' lm', F_40_28 n (nn k) im lm = some (0, im', lm') ∧ (∀ a, a ≠ 20 → im' a = im a) ∧ (∀ j, k ≤ j → j < 6 → im' 20 j = -10000005 ∧ lm' 21 j = 0 ∧ lm' 22 j = 0) ∧ (∀ j, j < k → im' 20 j = im 20 j ∧ lm' 21 j = lm 21 j ∧ lm' 22 j = lm 22 j) ∧ (∀ a, a ≠ 21 → a ≠ 22 → lm' a = lm a) := by
  intro d
  induction d with
  | zero =>
    intro k n im lm hk hn
    obtain ⟨m, rfl⟩ : ∃ m, n = m + 1 := ⟨n - 1, by omega⟩
    have : k = 6 := by omega
    subst this
    unfold F_40_28
    rw [if_pos (show (6 : Int32) ≤ nn 6 from Int32.le_refl _)]
    exact ⟨im, lm, rfl, fun _ _ => rfl, fun j h1 h2 => by omega, fun _ _ => ⟨rfl, rfl, rfl⟩, fun _ _ _ => rfl⟩
  | succ d ih =>
    intro k n im lm hk hn
    obtain ⟨m, rfl⟩ : ∃ m, n = m + 1 := ⟨n - 1, by omega⟩
    have h0 : ¬ ((6 : Int32) ≤ nn k) := nn_ge k 6 (by omega) (by omega)
    obtain ⟨im', lm', a1, a2, a3, a4, a5⟩ := ih (k + 1) m (zeU2 im 20 k (-10000005)) (zeU2 (zeU2 lm 21 k 0) 22 k 0) (by omega) (by omega)
    refine ⟨im', lm', ?_, ?_, ?_, ?_, ?_⟩
    · unfold F_40_28
      rw [if_neg h0]
      simp (disch := omega) only [nn_mull, nn_mulr, nn_addl, nn_addr, nn_add, nn_mul, tn_nn, tn_l, inb_nn, inb_l, zCk_t, ite_self, zBd_s]
      exact a1
    · intro a ha; rw [a2 a ha, u2n _ _ _ _ _ ha]
    · intro j h1 h2
      by_cases g : j = k
      · subst g
        obtain ⟨b1, b2, b3⟩ := a4 j (by omega)
        rw [b1, b2, b3]
        refine ⟨u2_s _ _ _ _, ?_, u2_s _ _ _ _⟩
        rw [u2n _ _ _ _ _ (by decide), u2_s]
      · exact a3 j (by omega) h2
    · intro j hj
      obtain ⟨b1, b2, b3⟩ := a4 j (by omega)
      rw [b1, b2, b3]
      refine ⟨?_, ?_, ?_⟩
      · rw [u2_j _ _ _ _ _ _ (by omega)]
      · rw [u2n _ _ _ _ _ (by decide), u2_j _ _ _ _ _ _ (by omega)]
      · rw [u2_j _ _ _ _ _ _ (by omega), u2n _ _ _ _ _ (by decide)]
    · intro a h1 h2; rw [a5 a h1 h2, u2n _ _ _ _ _ h2, u2n _ _ _ _ _ h1]
theorem b6_0 (i : Nat) : b6 0 i = false := BitVec.getLsbD_zero
theorem DoA_pck {R : Nat → Int32} (hG : GD R) (p c : Int32) : DoA (m_42 p c) R (aPck R p c) := by
  have h6 := hG.1.2
  have hb1 : ∀ im lm q, NW im lm R q → im 17 0 = R 0 ∧ im 17 1 = R 1 ∧ im 17 2 = R 11 ∧ im 17 3 = R 10 := fun im lm q hn => hn.1.1
  rcases pck_cases hG p c with ⟨h1, h⟩ | ⟨k, hk, rfl, ⟨h1, h⟩ | ⟨x, hx, rfl, h⟩⟩
  · refine DoA_mk (aPck_no h (by decide)) (ret_D' _ fun im lm q hn => ?_)
    unfold m_42; rw [(hb1 im lm q hn).2.1, (ix_no hG.1.1 (by omega) h1).1, if_pos rfl]
  · refine DoA_mk (aPck_no h (by decide)) (ret_D' _ fun im lm q hn => ?_)
    have e25 := (ix_no (n := 25) (N := 25) rfl (by omega) h1).1
    unfold m_42; rw [(hb1 im lm q hn).2.1, (ix_yes hG.1.1 (by omega) hk).1, if_neg (by decide), e25, if_pos rfl]
  have e25 : (if nn x < 0 then 0 else if (25 : Int32) ≤ nn x then 0 else 1 : Int32) = 1 := (ix_yes (n := 25) (N := 25) rfl (by omega) hx).1
  have ey := (ix_yes hG.1.1 (by omega) hk).1
  have hcn := ctl_e hG (by omega)
  have hN0 : ¬ R 1 = 0 := by rw [hG.1.1, show (0 : Int32) = nn 0 from rfl, nn_inj _ _ (by omega) (by omega)]; omega
  have h32 : ∀ im lm q, NW im lm R q → (if R 1 = 0 then (-10000005) else (im 32 0) : Int32) = nn (ctl R) := fun im lm q hn => by
    rw [if_neg hN0]; exact hn.2.1.1.trans hcn.1
  have hkc : (nn k = nn (ctl R)) = (k = ctl R) := nn_inj _ _ (by omega) (by omega)
  rcases h with ⟨h0, h⟩ | ⟨h0, ⟨hk2, h⟩ | ⟨hk2, ⟨hb, h⟩ | ⟨hb, h⟩⟩⟩
  · refine DoA_mk (aPck_no h (by decide)) (ref_D' hG 1 (by decide) fun im lm q hn => ?_)
    obtain ⟨b1, b2, b3, b4⟩ := hb1 im lm q hn
    unfold m_42; rw [b2, ey, if_neg (by decide), e25, if_neg (by decide), b1, if_neg h0]; rfl
  · refine DoA_mk (aPck_no h (by decide)) (ref_D' hG 2 (by decide) fun im lm q hn => ?_)
    obtain ⟨b1, b2, b3, b4⟩ := hb1 im lm q hn
    unfold m_42; rw [b2, ey, if_neg (by decide), e25, if_neg (by decide), b1, if_pos h0, h32 im lm q hn, if_neg (by rw [hkc]; exact hk2)]; rfl
  · refine DoA_mk (aPck_no h (by decide)) (ref_D' hG 3 (by decide) fun im lm q hn => ?_)
    obtain ⟨b1, b2, b3, b4⟩ := hb1 im lm q hn
    unfold m_42; rw [b2, ey, if_neg (by decide), e25, if_neg (by decide), b1, if_pos h0, h32 im lm q hn, if_pos (by rw [hkc]; exact hk2), b4, b_get _ _ (by omega), hb, if_pos (by decide)]; rfl
  · refine DoA_mk (aPck_ok hx h) ?_
    intro q im lm hn
    obtain ⟨b1, b2, b3, b4⟩ := hb1 im lm q hn
    obtain ⟨e0, e2, e3, e4, e10, e14, eb, uo⟩ := pckR_e R x
    have hG' := GD_pck hG (by omega) h0 hx
    have u : ∀ j, (j = 1 ∨ (5 ≤ j ∧ j ≤ 9) ∨ (11 ≤ j ∧ j ≤ 13) ∨ (15 ≤ j ∧ j < 30) ∨ 54 ≤ j) → pckR R x j = R j := fun j hj => uo j (by omega) (by omega) (by omega) (by omega) (by omega) (by omega) (by omega)
    have eE : rE (pckR R x) = rE R := by unfold rE; rw [u 5 (by omega)]
    have ag : agK R (pckR R x) (rE R) := fun j h1 _ => u j (by omega)
    obtain ⟨⟨_, c5, ⟨c6, c7⟩, c8, c9, c10, c11, c12, c13⟩, h2, h3, h4⟩ := id hn
    have s0 : im 18 0 = R 6 := c5 0 (by decide)
    have s1 : im 18 1 = R 7 := c5 1 (by decide)
    obtain ⟨im', lm', a1, a2, a3, a4, a5⟩ := s40 6 0 2000 (zeU2 (zeU2 (zeU2 (zeU2 (zeU2 (zeU2 im 17 3 (R 10 ||| (1 <<< (nn x &&& 31)))) 19 0 (nn x)) 19 1 (R 6)) 19 2 (R 7)) 19 3 0) 19 4 0) lm rfl (by omega)
    have hf : ∀ a, a ≠ 17 → a ≠ 19 → a ≠ 20 → im' a = im a := fun a h1 h2 h3 => by
      rw [a2 a h3]; simp only [u2n _ _ _ _ _ h1, u2n _ _ _ _ _ h2]
    have f17 : ∀ j, j ≠ 3 → im' 17 j = im 17 j := fun j hj => by
      rw [a2 17 (by decide)]; simp (disch := omega) only [u2n, u2_j]
    have f173 : im' 17 3 = R 10 ||| (1 <<< (nn x &&& 31)) := by
      rw [a2 17 (by decide)]; simp (disch := omega) only [u2n, u2_s]
    have f172 : im' 17 2 = R 11 := (f17 2 (by decide)).trans b3
    have f19 : im' 19 0 = nn x ∧ im' 19 1 = R 6 ∧ im' 19 2 = R 7 ∧ im' 19 4 = 0 := by
      rw [a2 19 (by decide)]
      refine ⟨?_, ?_, ?_, ?_⟩ <;> simp (disch := omega) only [u2_j, u2_s]
    have ev : (if bt (R 11) x = true then (2 : Int32) else 1) = pckR R x 0 := e0.symm
    refine ⟨zeU2 im' 17 0 (pckR R x 0), lm', ?_, ⟨⟨⟨?_, ?_, ?_, ?_⟩, ?_, ⟨?_, ?_⟩, ?_, ?_, ?_, ?_, ?_, ?_⟩, ?_, ?_, ?_⟩, ?_⟩
    · unfold m_42 m_40 J_42_137
      rw [b2, ey, if_neg (by decide), e25, if_neg (by decide), b1, if_pos h0, h32 im lm q hn, if_pos (by rw [hkc]; exact hk2), b4, b_get _ _ (by omega), hb, if_neg (by decide), s0, s1, show F_40_28 2000 0 _ lm = _ from a1, zBd_s, f172, b_get _ _ (by omega), val_e x hx]
      simp only [zb_1, ev]
    · exact u2_s _ _ _ _
    · rw [u2_j _ _ _ _ _ _ (by decide), f17 _ (by decide), u 1 (by omega)]; exact b2
    · rw [u2_j _ _ _ _ _ _ (by decide), f172, u 11 (by omega)]
    · rw [u2_j _ _ _ _ _ _ (by decide), f173, e10]
    · intro j hj; rw [u2n _ _ _ _ _ (by decide), hf _ (by decide) (by decide) (by decide), u _ (by omega)]; exact c5 j hj
    · rw [u2n _ _ _ _ _ (by decide), hf _ (by decide) (by decide) (by decide), u 5 (by omega)]; exact c6
    · rw [eE]; exact LgR_im (fun i h1 h2 => by rw [u2n _ _ _ _ _ (by omega), hf _ (by omega) (by omega) (by omega)]) ag c7
    · intro _; rw [u2n _ _ _ _ _ (by decide), e2]; exact f19.1
    · rw [e0]; intro h; exfalso
      by_cases g : bt (R 11) x = true
      · rw [if_pos g] at h; exact absurd h (by decide)
      · rw [if_neg g] at h; exact absurd h (by decide)
    · intro _
      rw [u2n _ _ _ _ (17 + 2) (by decide), u2n _ _ _ _ (17 + 3) (by decide), e3, e4, e14]
      refine ⟨f19.2.1, f19.2.2.1, f19.2.2.2, fun p hp => ?_⟩
      obtain ⟨g1, g2, g3⟩ := a3 p (Nat.zero_le p) hp
      rw [cnt_0 eb (GD_rd hG') hp]
      refine ⟨g1.trans orN_m.symm, fun t ht => ?_⟩
      rw [told_0 eb hp ht]
      unfold tld
      show (if t < 64 then b6 (lm' 21 p) t else b6 (lm' 22 p) (t - 64)) = false
      rw [g2, g3, b6_0, b6_0, ite_self]
    · rw [u2n _ _ _ _ (17 + 8) (by decide), u2n _ _ _ _ (17 + 7) (by decide), hf (17 + 8) (by decide) (by decide) (by decide), hf (17 + 7) (by decide) (by decide) (by decide), u 13 (by omega)]
      intro p hp; rw [u _ (by omega), u _ (by omega)]; exact c11 p hp
    · rw [e0]; intro h; exfalso
      by_cases g : bt (R 11) x = true
      · rw [if_pos g] at h; exact absurd h (by decide)
      · rw [if_neg g] at h; exact absurd h (by decide)
    · intro _; rw [u2n _ _ _ _ _ (by decide), hf _ (by decide) (by decide) (by decide)]; exact c13 (Or.inl h0)
    · rw [eE]; exact RpV_im (fun a h5 h6 => by rw [u2n _ _ _ _ _ (by omega), hf a (by omega) (by omega) (by omega)]) (RpV_c ag h2)
    · rw [u2n _ _ _ _ _ (by decide), hf _ (by decide) (by decide) (by decide)]; exact h3
    · rw [u2n _ _ _ _ _ (by decide), hf _ (by decide) (by decide) (by decide)]; exact h4
    · exact ⟨fun a j h1 h2 => by rw [u2n _ _ _ _ _ (by omega), hf a (by omega) (by omega) (by omega)], fun a h1 h2 => a5 a h1 h2⟩
/-! the model -/