/-! ACTS: buzz *-/
def buzR (R : Nat → Int32) (p t : Nat) : Nat → Int32 := zeU1 R (30 + 4 * p + t / 25) (R (30 + 4 * p + t / 25) ||| (1 <<< (nn (t % 25) &&& 31)))
theorem buz_told (R : Nat → Int32) {p t p' t' : Nat} (hp : p < 6) (ht : t < 100) (hp' : p' < 6) (ht' : t' < 100) : told (buzR R p t) p' t' = (told R p' t' || (decide (p' = p) && decide (t' = t))) := by
  unfold told buzR
  rw [u1e]
  by_cases g : 30 + 4 * p' + t' / 25 = 30 + 4 * p + t / 25
  · rw [if_pos g, b_set _ _ (by omega), g]
    have hpp : p' = p := by omega
    by_cases g2 : t' % 25 = t % 25
    · have : t' = t := by omega
      simp [g2, hpp, this]
    · have : ¬ t' = t := fun h => g2 (by rw [h])
      simp [g2, this]
  · rw [if_neg g]
    have : ¬ (p' = p ∧ t' = t) := fun h => g (by rw [h.1, h.2])
    by_cases g1 : p' = p
    · have g3 : ¬ t' = t := fun h => this ⟨g1, h⟩
      simp [g3]
    · simp [g1]
theorem buzR_e {R : Nat → Int32} {p t : Nat} (hp : p < 6) (ht : t < 100) : ∀ j, (j < 30 ∨ 54 ≤ j) → buzR R p t j = R j := fun j hj => by
  unfold buzR; rw [u1_n _ _ _ _ (by omega)]
theorem lt_99 (c : Int32) : (99 < c) = (100 ≤ c) := by
  apply propext
  rw [Int32.lt_iff_toInt_lt, Int32.le_iff_toInt_le]
  have e1 : (99 : Int32).toInt = 99 := by decide +kernel
  have e2 : (100 : Int32).toInt = 100 := by decide +kernel
  omega
def cBuz (R : Nat → Int32) (p t : Int32) : Int32 × Int32 := if p < 0 ∨ R 1 ≤ p then (-10000001, 0) else if t < 0 ∨ 100 ≤ t then (-10000002, 0) else if R 0 = 1 then (if told R p.toNatClampNeg t.toNatClampNeg = true then (-10000005, 0) else (0, 0)) else (-10000003, 1)
def aBuz (R : Nat → Int32) (p t : Int32) : zA := if (cBuz R p t).1 < 0 then ((cBuz R p t).1, R, (cBuz R p t).2) else (nn (cntN (isqB (buzR R p.toNatClampNeg t.toNatClampNeg)) (rN R)), buzR R p.toNatClampNeg t.toNatClampNeg, 0)
theorem buz_cases {R : Nat → Int32} (hG : GD R) (p t : Int32) : ((p < 0 ∨ R 1 ≤ p) ∧ cBuz R p t = (-10000001, 0)) ∨ (∃ k, k < rN R ∧ p = nn k ∧ ((t < 0 ∨ 100 ≤ t) ∧ cBuz R p t = (-10000002, 0) ∨ ∃ x, x < 100 ∧ t = nn x ∧ ((¬ R 0 = 1 ∧ cBuz R p t = (-10000003, 1)) ∨ (R 0 = 1 ∧ ((told R k x = true ∧ cBuz R p t = (-10000005, 0)) ∨ (told R k x = false ∧ cBuz R p t = (0, 0))))))) := by
  have h6 := hG.1.2
  rcases ix_cases hG.1.1 (by omega) p with h | ⟨k, hk, rfl⟩
  · exact Or.inl ⟨h, by unfold cBuz; rw [if_pos h]⟩
  refine Or.inr ⟨k, hk, rfl, ?_⟩
  have hnp := ix_not hG.1.1 (by omega) hk
  rcases ix_cases (n := 100) (N := 100) rfl (by omega) t with h | ⟨x, hx, rfl⟩
  · exact Or.inl ⟨h, by unfold cBuz; rw [if_neg hnp, if_pos h]⟩
  refine Or.inr ⟨x, hx, rfl, ?_⟩
  have hnc : ¬ (nn x < 0 ∨ 100 ≤ nn x) := ix_not (n := 100) (N := 100) rfl (by omega) hx
  by_cases h0 : R 0 = 1
  · refine Or.inr ⟨h0, ?_⟩
    cases hb : told R k x
    · exact Or.inr ⟨rfl, by unfold cBuz; rw [if_neg hnp, if_neg hnc, if_pos h0, tn_nn _ (by omega), tn_nn _ (by omega), hb, if_neg (by decide)]⟩
    · exact Or.inl ⟨rfl, by unfold cBuz; rw [if_neg hnp, if_neg hnc, if_pos h0, tn_nn _ (by omega), tn_nn _ (by omega), hb, if_pos rfl]⟩
  · exact Or.inl ⟨h0, by unfold cBuz; rw [if_neg hnp, if_neg hnc, if_neg h0]⟩
theorem aBuz_no {R : Nat → Int32} {p c r w : Int32} (h : cBuz R p c = (r, w)) (hr : r < 0) : aBuz R p c = (r, R, w) := by unfold aBuz; rw [h, if_pos hr]
theorem aBuz_ok {R : Nat → Int32} {k x : Nat} (hk : k < 6) (hx : x < 100) (h : cBuz R (nn k) (nn x) = (0, 0)) : aBuz R (nn k) (nn x) = (nn (cntN (isqB (buzR R k x)) (rN R)), buzR R k x, 0) := by unfold aBuz; rw [h, if_neg (by decide), tn_nn _ (by omega), tn_nn _ (by omega)]
theorem GD_buz {R : Nat → Int32} (hG : GD R) {p t : Nat} (hp : p < 6) (ht : t < 100) : GD (buzR R p t) := by
  have u := buzR_e (R := R) hp ht
  generalize buzR R p t = R' at u
  obtain ⟨⟨a1, a2⟩, ⟨a3, a4⟩, a5, a6, a7, a8, a9, a10, a11, a12, a13, a14, a15, a16, a17, a18⟩ := id hG
  refine GD_ph (R' := R') hG ?_ ?_ ?_ ?_ ?_ ?_ ?_ ?_ ?_ ?_ ?_
  · intro j hj
    exact u j (by omega)
  · rw [u 0 (by omega)]; exact a6
  · rw [u 0 (by omega), u 2 (by omega)]; exact a7
  · rw [u 0 (by omega), u 2 (by omega)]; exact a8
  · rw [u 0 (by omega)]; exact fun h => a10 (Or.inl h)
  · rw [u 12 (by omega)]; exact a11
  · rw [u 13 (by omega), u 14 (by omega)]; exact a13
  · intro p hp; rw [u 13 (by omega), u _ (by omega)]; exact a14 p hp
  · intro p hp; rw [u _ (by omega)]; exact a15 p hp
  · rw [u 0 (by omega), u 13 (by omega)]; intro h p hp; rw [u _ (by omega)]; exact a16 h p hp
  · rw [u 0 (by omega), u 14 (by omega)]; exact a17
theorem GD_aBuz {R : Nat → Int32} (hG : GD R) (p t : Int32) : GD (aBuz R p t).2.1 := by
  have h6 := hG.1.2
  rcases buz_cases hG p t with ⟨_, h⟩ | ⟨k, hk, rfl, ⟨_, h⟩ | ⟨x, hx, rfl, ⟨_, h⟩ | ⟨h0, ⟨_, h⟩ | ⟨_, h⟩⟩⟩⟩
  · rw [aBuz_no h (by decide)]; exact hG
  · rw [aBuz_no h (by decide)]; exact hG
  · rw [aBuz_no h (by decide)]; exact hG
  · rw [aBuz_no h (by decide)]; exact hG
  · rw [aBuz_ok (by omega) hx h]; exact GD_buz hG (by omega) hx
def telL (lm : zJ) (p t : Nat) : zJ := if 64 ≤ t then zeU2 lm 22 p (lm 22 p ||| zflshl 1 (nn (t - 64))) else zeU2 lm 21 p (lm 21 p ||| zflshl 1 (nn t))
theorem tel_tld (lm : zJ) {p t p' t' : Nat} (ht : t < 100) (ht' : t' < 100) : tld (telL lm p t) 17 p' t' = (tld lm 17 p' t' || (decide (p' = p) && decide (t' = t))) := by
  unfold tld telL
  show (if t' < 64 then b6 ((if 64 ≤ t then zeU2 lm 22 p (lm 22 p ||| zflshl 1 (nn (t - 64))) else zeU2 lm 21 p (lm 21 p ||| zflshl 1 (nn t))) 21 p') t' else b6 ((if 64 ≤ t then zeU2 lm 22 p (lm 22 p ||| zflshl 1 (nn (t - 64))) else zeU2 lm 21 p (lm 21 p ||| zflshl 1 (nn t))) 22 p') (t' - 64)) = ((if t' < 64 then b6 (lm 21 p') t' else b6 (lm 22 p') (t' - 64)) || (decide (p' = p) && decide (t' = t)))
  by_cases g : 64 ≤ t
  · simp only [if_pos g]
    by_cases g1 : t' < 64
    · have : ¬ t' = t := by omega
      rw [if_pos g1, if_pos g1, u2n _ _ _ _ _ (by decide), decide_eq_false this, Bool.and_false, Bool.or_false]
    · rw [if_neg g1, if_neg g1, u2_e]
      by_cases g2 : p' = p
      · subst g2
        rw [if_pos ⟨rfl, rfl⟩, b6_or, b6_shl _ (by omega)]
        have : (t' - 64 = t - 64) = (t' = t) := by apply propext; omega
        simp [this]
      · rw [if_neg (fun h => g2 h.2), decide_eq_false g2, Bool.false_and, Bool.or_false]
  · simp only [if_neg g]
    by_cases g1 : t' < 64
    · rw [if_pos g1, if_pos g1, u2_e]
      by_cases g2 : p' = p
      · subst g2
        rw [if_pos ⟨rfl, rfl⟩, b6_or, b6_shl _ (by omega)]
        simp
      · rw [if_neg (fun h => g2 h.2), decide_eq_false g2, Bool.false_and, Bool.or_false]
    · have : ¬ t' = t := by omega
      rw [if_neg g1, if_neg g1, u2n _ _ _ _ _ (by decide), decide_eq_false this, Bool.and_false, Bool.or_false]
theorem s55 (im : zI) (lm : zJ) (p t rd lk : Nat) (hp : p < 6) (ht : t < 100) (hr : rd ≤ 30) (hl : lk ≤ 30) (h1 : im 19 1 = nn rd) (h2 : im 19 2 = nn lk) : m_55 (nn p) (nn t) im lm = some (0, zeU2 im 20 p (orN (cntF (tld (telL lm p t) 17 p) rd lk)), telL lm p t) := by
  have e : (if (64 : Int32) ≤ nn t then (zeU2 lm 22 p ((lm 22 p) ||| (zflshl 1 (nn t - 64)))) else (zeU2 lm 21 p ((lm 21 p) ||| (zflshl 1 (nn t))))) = telL lm p t := by
    unfold telL
    have hc : ((64 : Int32) ≤ nn t) = (64 ≤ t) := by rw [show (64 : Int32) = nn 64 from rfl]; exact nn_le _ _ (by omega) (by omega)
    simp only [hc]
    by_cases g : 64 ≤ t
    · rw [if_pos g, if_pos g, show nn t - 64 = nn (t - 64) from nn_subr t 64 g (by omega)]
    · rw [if_neg g, if_neg g]
  unfold m_55 J_55_36
  simp (disch := omega) only [nn_mull, nn_mulr, nn_addl, nn_addr, nn_add, nn_mul, tn_nn, tn_l, inb_nn, inb_l, zCk_t, ite_self, zBd_s]
  rw [e, s54w im (telL lm p t) p rd lk hp hr hl h1 h2, zBd_s]
theorem DoA_buz {R : Nat → Int32} (hG : GD R) (p t : Int32) : DoA (m_58 p t) R (aBuz R p t) := by
  have h6 := hG.1.2
  have hb1 : ∀ im lm q, NW im lm R q → im 17 0 = R 0 ∧ im 17 1 = R 1 ∧ im 17 2 = R 11 ∧ im 17 3 = R 10 := fun im lm q hn => hn.1.1
  rcases buz_cases hG p t with ⟨h1, h⟩ | ⟨k, hk, rfl, ⟨h1, h⟩ | ⟨x, hx, rfl, h⟩⟩
  · refine DoA_mk (aBuz_no h (by decide)) (ret_D' _ fun im lm q hn => ?_)
    unfold m_58; rw [(hb1 im lm q hn).2.1, (ix_no hG.1.1 (by omega) h1).1, if_pos rfl]
  · refine DoA_mk (aBuz_no h (by decide)) (ret_D' _ fun im lm q hn => ?_)
    unfold m_58; rw [(hb1 im lm q hn).2.1, (ix_yes hG.1.1 (by omega) hk).1, if_neg (by decide)]
    by_cases g : t < 0
    · rw [if_pos g]
    · have g2 : 100 ≤ t := by rcases h1 with h1 | h1; exact absurd h1 g; exact h1
      rw [if_neg g, if_neg (Int32.not_lt.mpr g2)]
  have hx0 : ¬ nn x < 0 := nn_neg x (by omega)
  have hx1 : nn x < 100 := by rw [show (100 : Int32) = nn 100 from rfl, nn_lt _ _ (by omega) (by omega)]; exact hx
  have ey := (ix_yes hG.1.1 (by omega) hk).1
  rcases h with ⟨h0, h⟩ | ⟨h0, ⟨hb, h⟩ | ⟨hb, h⟩⟩
  · refine DoA_mk (aBuz_no h (by decide)) (ref_D' hG 1 (by decide) fun im lm q hn => ?_)
    obtain ⟨b1, b2, b3, b4⟩ := hb1 im lm q hn
    unfold m_58; rw [b2, ey, if_neg (by decide), if_neg hx0, if_pos hx1, b1, if_neg h0]; rfl
  · refine DoA_mk (aBuz_no h (by decide)) (ret_D' _ fun im lm q hn => ?_)
    obtain ⟨b1, b2, b3, b4⟩ := hb1 im lm q hn
    obtain ⟨d1, d2, d3, d4⟩ := hn.1.2.2.2.2.2.1 h0
    unfold m_58; rw [b2, ey, if_neg (by decide), if_neg hx0, if_pos hx1, b1, if_pos h0, s52 im lm k x (by omega) hx, zBd_s, (d4 k (by omega)).2 x hx, hb, if_pos rfl, if_neg (by decide)]
  · refine DoA_mk (aBuz_ok (by omega) hx h) ?_
    intro q im lm hn
    have hk6 : k < 6 := by omega
    obtain ⟨b1, b2, b3, b4⟩ := hb1 im lm q hn
    obtain ⟨⟨_, c5, ⟨c6, c7⟩, c8, c9, c10, c11, c12, c13⟩, h2, h3, h4⟩ := id hn
    obtain ⟨d1, d2, d3, d4⟩ := c10 h0
    obtain ⟨_, _, _, ⟨rd, hr, hrd⟩, ⟨lk, hl, hlk⟩⟩ := hG.2.2.2.2.2.2.1
    have u := buzR_e (R := R) hk6 hx
    have hG' := GD_buz hG hk6 hx
    have eE : rE (buzR R k x) = rE R := by unfold rE; rw [u 5 (by omega)]
    have eN : rN (buzR R k x) = rN R := by unfold rN; rw [u 1 (by omega)]
    have ag : agK R (buzR R k x) (rE R) := fun j h1 _ => u j (by omega)
    have hT : ∀ p', p' < 6 → ∀ t', t' < 100 → tld (telL lm k x) 17 p' t' = told (buzR R k x) p' t' := fun p' hp' t' ht' => by
      rw [tel_tld lm hx ht', buz_told R hk6 hx hp' ht', (d4 p' hp').2 t' ht']
    have hC : ∀ p', p' < 6 → zeU2 im 20 k (orN (cntF (tld (telL lm k x) 17 k) rd lk)) 20 p' = orN (cnt (buzR R k x) p') := fun p' hp' => by
      by_cases g : p' = k
      · subst g
        rw [u2_s]
        congr 1
        unfold cnt
        rw [u 3 (by omega), u 4 (by omega), hrd, hlk, tn_nn _ (by omega), tn_nn _ (by omega)]
        exact cntF_c _ _ _ _ (by omega) (fun i hi => hT p' hp' i hi)
      · rw [u2_j _ _ _ _ _ _ g]
        refine ((d4 p' hp').1).trans ?_
        congr 1
        unfold cnt
        rw [u 3 (by omega), u 4 (by omega)]
        exact cntF_c _ _ _ _ (by have := GD_rd hG; omega) (fun i hi => by rw [buz_told R hk6 hx hp' hi, decide_eq_false g]; simp)
    have hNW : NW (zeU2 im 20 k (orN (cntF (tld (telL lm k x) 17 k) rd lk))) (telL lm k x) (buzR R k x) q := by
      refine ⟨⟨⟨?_, ?_, ?_, ?_⟩, ?_, ⟨?_, ?_⟩, ?_, ?_, ?_, ?_, ?_, ?_⟩, ?_, ?_, ?_⟩
      · rw [u2n _ _ _ _ _ (by decide), u 0 (by omega)]; exact b1
      · rw [u2n _ _ _ _ _ (by decide), u 1 (by omega)]; exact b2
      · rw [u2n _ _ _ _ _ (by decide), u 11 (by omega)]; exact b3
      · rw [u2n _ _ _ _ _ (by decide), u 10 (by omega)]; exact b4
      · intro j hj; rw [u2n _ _ _ _ _ (by decide), u _ (by omega)]; exact c5 j hj
      · rw [u2n _ _ _ _ _ (by decide), u 5 (by omega)]; exact c6
      · rw [eE]; exact LgR_im (fun i h1 h2 => u2n _ _ _ _ _ (by omega)) ag c7
      · rw [u 0 (by omega), u 2 (by omega), u2n _ _ _ _ _ (by decide)]; exact c8
      · rw [u 0 (by omega), u 12 (by omega), u2n _ _ _ _ _ (by decide)]; exact c9
      · intro _
        rw [u 3 (by omega), u 4 (by omega), u 14 (by omega), u2n _ _ _ _ (17 + 2) (by decide)]
        exact ⟨d1, d2, d3, fun p' hp' => ⟨hC p' hp', hT p' hp'⟩⟩
      · rw [u2n _ _ _ _ (17 + 8) (by decide), u2n _ _ _ _ (17 + 7) (by decide), u 13 (by omega)]
        intro p hp; rw [u _ (by omega), u _ (by omega)]; exact c11 p hp
      · rw [u 0 (by omega), h0]; intro h; exact absurd h (by decide)
      · rw [u 0 (by omega), u2n _ _ _ _ _ (by decide)]; exact c13
      · rw [eE]; exact RpV_im (fun a h5 h6 => u2n _ _ _ _ _ (by omega)) (RpV_c ag h2)
      · rw [u2n _ _ _ _ _ (by decide)]; exact h3
      · rw [u2n _ _ _ _ _ (by decide)]; exact h4
    have h57 := s57 hG' hNW (by rw [u 0 (by omega)]; exact h0) (rN (buzR R k x)) 0 2000 (by omega) (by omega)
    rw [eN] at h57
    refine ⟨_, _, ?_, hNW, ⟨fun a j h1 h2 => by rw [u2n _ _ _ _ _ (by omega)], fun a h1 h2 => ?_⟩⟩
    · unfold m_58 m_57
      rw [b2, ey, if_neg (by decide), if_neg hx0, if_pos hx1, b1, if_pos h0, s52 im lm k x hk6 hx, zBd_s, (d4 k hk6).2 x hx, hb, if_pos (show (if false = true then (1 : Int32) else 0) = 0 by decide), s55 im lm k x rd lk hk6 hx hr hl (d1.trans hrd) (d2.trans hlk), zBd_s, show F_57_4 2000 0 0 _ _ = _ from h57, zBd_s]
    · unfold telL
      by_cases g : 64 ≤ x
      · rw [if_pos g, u2n _ _ _ _ _ h2]
      · rw [if_neg g, u2n _ _ _ _ _ h1]