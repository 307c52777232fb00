/-! ACTS: an entry more in the log; correct *-/
def entR (R : Nat → Int32) (p s c t r : Int32) : Nat → Int32 := zeU1 (zeU1 (zeU1 (zeU1 (zeU1 (zeU1 R (60 + 5 * rE R) p) (60 + 5 * rE R + 1) s) (60 + 5 * rE R + 2) c) (60 + 5 * rE R + 3) t) (60 + 5 * rE R + 4) r) 5 (nn (rE R + 1))
theorem entR_e (R : Nat → Int32) (p s c t r : Int32) : entR R p s c t r 5 = nn (rE R + 1) ∧ entR R p s c t r (60 + 5 * rE R) = p ∧ entR R p s c t r (60 + 5 * rE R + 1) = s ∧ entR R p s c t r (60 + 5 * rE R + 2) = c ∧ entR R p s c t r (60 + 5 * rE R + 3) = t ∧ entR R p s c t r (60 + 5 * rE R + 4) = r ∧ ∀ j, j ≠ 5 → (j < 60 + 5 * rE R ∨ 60 + 5 * rE R + 5 ≤ j) → entR R p s c t r j = R j := by
  unfold entR
  refine ⟨u1_s _ _ _, ?_, ?_, ?_, ?_, ?_, ?_⟩
  · simp (disch := omega) only [u1_n, u1_s]
  · simp (disch := omega) only [u1_n, u1_s]
  · simp (disch := omega) only [u1_n, u1_s]
  · simp (disch := omega) only [u1_n, u1_s]
  · simp (disch := omega) only [u1_n, u1_s]
  · intro j h1 h2; simp (disch := omega) only [u1_n, u1_s]
/-- the class's append -/
def apI (im : zI) (E : Nat) (p s c t r : Int32) : zI := zeU2 (zeU2 (zeU2 (zeU2 (zeU2 (zeU2 im 27 E p) 28 E s) 29 E c) 30 E t) 31 E r) 26 0 (nn (E + 1))
theorem s71 (im : zI) (lm : zJ) (E : Nat) (hE : E < 60) (h : im 26 0 = nn E) (p s c t r : Int32) : m_71 p s c t r im lm = some (0, apI im E p s c t r, lm) := by
  have h1 : nn E < 60 := by rw [show (60 : Int32) = nn 60 from rfl, nn_lt _ _ (by omega) (by omega)]; exact hE
  unfold m_71
  rw [h]
  simp (disch := omega) only [nn_mull, nn_mulr, nn_addl, nn_addr, nn_add, nn_mul, tn_nn, tn_l, inb_nn, inb_l, zCk_t, ite_self, zBd_s, h1, if_true]
  rfl
theorem apI_n (im : zI) (E : Nat) (p s c t r : Int32) (a : Nat) (h : a < 26 ∨ 31 < a) : apI im E p s c t r a = im a := by
  unfold apI; simp (disch := omega) only [u2n]
theorem LgR_ap {im : zI} {R R' : Nat → Int32} {p s c t r c' r' : Int32} (hl : LgR im 26 R (rE R)) (ag : agK R R' (rE R)) (h0 : R' (60 + 5 * rE R) = p) (h1 : R' (60 + 5 * rE R + 1) = s) (h2 : R' (60 + 5 * rE R + 2) = c) (h3 : R' (60 + 5 * rE R + 3) = t) (h4 : R' (60 + 5 * rE R + 4) = r) (hc : c' = orN c) (hr : r' = orN r) : LgR (apI im (rE R) p s c' t r') 26 R' (rE R + 1) := by
  intro k hk
  unfold apI
  by_cases g : k = rE R
  · subst g
    rw [h0, h1, h2, h3, h4, ← hc, ← hr]
    refine ⟨?_, ?_, ?_, ?_, ?_⟩ <;> simp (disch := omega) only [u2n, u2_s]
  · have hk' : k < rE R := by omega
    obtain ⟨l1, l2, l3, l4, l5⟩ := hl k hk'
    rw [ag (60 + 5 * k) (by omega) (by omega), ag (60 + 5 * k + 1) (by omega) (by omega), ag (60 + 5 * k + 2) (by omega) (by omega), ag (60 + 5 * k + 3) (by omega) (by omega), ag (60 + 5 * k + 4) (by omega) (by omega)]
    refine ⟨?_, ?_, ?_, ?_, ?_⟩ <;> simp (disch := omega) only [u2n, u2_j] <;> assumption
theorem GD_ap {R R' : Nat → Int32} (hG : GD R) (hE : rE R < 60) (h5 : R' 5 = nn (rE R + 1)) (ag : agK R R' (rE R)) (hn : EG R' (rE R) ∧ eP R' (rE R) < rN R)
  (uo : ∀ j, (j = 1 ∨ (3 ≤ j ∧ j ≤ 4) ∨ (6 ≤ j ∧ j ≤ 11) ∨ (28 ≤ j ∧ j < 60) ∨ 360 ≤ j) → R' j = R j) (p0 : ∃ ph, ph ≤ 6 ∧ R' 0 = nn ph)
  (c1 : (R' 0 = 1 ∨ R' 0 = 2 ∨ R' 0 = 3) → ∃ c, c < 25 ∧ R' 2 = nn c ∧ (bt (R 11) c = true ↔ ¬ R' 0 = 1) ∧ bt (R 10) c = true)
  (c2 : ¬ (R' 0 = 1 ∨ R' 0 = 2 ∨ R' 0 = 3) → R' 2 = -1) (g8 : ¬ R' 0 = 0 → 0 < rN R) (g9 : ∃ w, w ≤ 100000 ∧ R' 12 = nn w)
  (g11 : ∀ i, rN R ≤ i → bt (R' 13) i = false ∧ bt (R' 14) i = false) (g12 : ∀ p, p < 6 → bt (R' 13) p = true → 0 < R' (16 + p))
  (g13 : ∀ p, p < 6 → R' (22 + p) = -1 ∨ ∃ w, w ≤ 100000 ∧ R' (22 + p) = nn w) (g14 : R' 0 = 5 → ∀ p, p < 6 → bt (R' 13) p = true → ¬ R' (22 + p) = -1) (g15 : R' 0 = 4 → R' 14 = 0) : GD R' := by
  obtain ⟨⟨a1, a2⟩, ⟨a3, a4⟩, a5, a6, a7, a8, a9, a10, a11, a12, a13, a14, a15, a16, a17, a18⟩ := hG
  have eN : rN R' = rN R := by unfold rN; rw [uo 1 (by omega)]
  have eE : rE R' = rE R + 1 := by unfold rE at *; rw [h5, tn_nn _ (by omega)]
  refine ⟨⟨by rw [uo 1 (by omega), eN]; exact a1, by omega⟩, ⟨by rw [h5, eE], by omega⟩, ?_, p0, ?_, c2, ?_, ?_, g9, ?_, ?_, g12, g13, g14, g15, ?_⟩
  · intro k hk
    rw [eE] at hk
    by_cases g : k = rE R
    · subst g; rw [eN]; exact hn
    · have hk' : k < rE R := by omega
      exact ⟨EG_c ag hk' (uo _ (by omega)) (uo _ (by omega)) (a5 k hk').1, by rw [eP_c ag hk', eN]; exact (a5 k hk').2⟩
  · rw [uo 11 (by omega), uo 10 (by omega)]; exact c1
  · rw [uo 6 (by omega), uo 7 (by omega), uo 8 (by omega), uo 3 (by omega), uo 4 (by omega)]; exact a9
  · rw [uo 10 (by omega), eN]
    rintro (h | h)
    · exact g8 h
    · exact a10 (Or.inr h)
  · rw [uo 11 (by omega), uo 10 (by omega)]; exact a12
  · rw [eN]; exact g11
  · intro j hj; rw [uo _ (by omega)]; exact a18 j hj
/-- the class: the replay of what now stands -/
theorem rep_NW {R : Nat → Int32} {q : Int32} {im : zI} {lm : zJ} (hG : GD R) (hc : CR im lm 17 R) (hq : im 16 7 = q) (hs : im 1 0 = 30 ∧ im 1 1 = 30 ∧ im 1 2 = 100) : ∃ im2, m_76 im lm = some (0, im2, lm) ∧ NW im2 lm R q ∧ FrR im im2 := by
  obtain ⟨im2, h1, h2, h3⟩ := s76 R im lm (rE R) hG.2.1.2 (fun k hk => (hG.2.2.1 k hk).1) (hc.2.2.1.1.trans hG.2.1.1) hc.2.2.1.2
  have hf : ∀ a, (a < 32 ∨ 40 < a) → im2 a = im a := fun a ha => by funext j; exact h3 a j ha
  refine ⟨im2, h1, ⟨CR_same (GD_E hG) (fun i hi => ⟨hf _ (by omega), rfl⟩) hc, h2, ?_, ?_⟩, h3⟩
  · rw [hf 16 (by omega)]; exact hq
  · rw [hf 1 (by omega)]; exact hs
theorem s77 {R : Nat → Int32} {q : Int32} {im : zI} {lm : zJ} {p : Nat} (hp : p < 6) (hG : GD R) (hc : CR im lm 17 R) (hq : im 16 7 = q) (hs : im 1 0 = 30 ∧ im 1 1 = 30 ∧ im 1 2 = 100) : ∃ im2, m_77 (nn p) im lm = some (sc R p, im2, lm) ∧ NW im2 lm R q ∧ FrR im im2 := by
  obtain ⟨im2, h1, h2, h3⟩ := rep_NW hG hc hq hs
  refine ⟨im2, ?_, h2, h3⟩
  unfold m_77
  rw [h1, zBd_s, s137 _ _ hp, zBd_s, (h2.2.1.2.1 p hp).1]; rfl
theorem FN_of {im im1 im2 : zI} {lm : zJ} (h : ∀ a, (41 < a ∨ a ≤ 16) → im1 a = im a) (h2 : FrR im1 im2) : FN im lm im2 lm :=
  ⟨fun a j h3 h4 => by rw [h2 a j (by omega), h a h3], fun _ _ _ => rfl⟩
theorem lt60 {E : Nat} (hE : E ≤ 60) : (nn E < 60) = (E < 60) ∧ (nn E = 60) = (E = 60) := by
  rw [show (60 : Int32) = nn 60 from rfl]
  exact ⟨nn_lt _ _ (by omega) (by omega), nn_inj _ _ (by omega) (by omega)⟩
/-! correct -/
def aCor (R : Nat → Int32) (p v : Int32) : zA := if p < 0 ∨ R 1 ≤ p then (-10000001, R, 0) else if v < -10000 then (-10000002, R, 0) else if v ≤ 10000 then (if rE R = 60 then (-10000003, R, 7) else (sc (entR R p 4 (-1) v (-1)) p.toNatClampNeg, entR R p 4 (-1) v (-1), 0)) else (-10000002, R, 0)
theorem GD_cor {R : Nat → Int32} (hG : GD R) (hE : rE R < 60) {k : Nat} (hk : k < rN R) {v : Int32} (h1 : ¬ v < -10000) (h2 : v ≤ 10000) : GD (entR R (nn k) 4 (-1) v (-1)) := by
  obtain ⟨e5, q0, q1, q2, q3, q4, uo⟩ := entR_e R (nn k) 4 (-1) v (-1)
  generalize entR R (nn k) 4 (-1) v (-1) = R' at e5 q0 q1 q2 q3 q4 uo
  have h6 := hG.1.2
  obtain ⟨⟨a1, a2⟩, ⟨a3, a4⟩, a5, a6, a7, a8, a9, a10, a11, a12, a13, a14, a15, a16, a17, a18⟩ := id hG
  have ep : eP R' (rE R) = k := by unfold eP; rw [q0, tn_nn _ (by omega)]
  refine GD_ap hG hE e5 (fun j h3 h4 => uo j (by omega) (by omega)) ⟨⟨⟨by rw [ep]; exact q0, by omega⟩, Or.inr (Or.inr ⟨q2, q1, q4⟩), ?_⟩, by omega⟩ (fun j hj => uo j (by omega) (by omega)) ?_ ?_ ?_ ?_ ?_ ?_ ?_ ?_ ?_ ?_
  · rw [q3]
    have e1 : (-10000 : Int32).toInt = -10000 := by decide +kernel
    have e2 : (10000 : Int32).toInt = 10000 := by decide +kernel
    have e3 : (-100000 : Int32).toInt = -100000 := by decide +kernel
    have e4 : (100000 : Int32).toInt = 100000 := by decide +kernel
    rw [Int32.lt_iff_toInt_lt] at h1
    rw [Int32.le_iff_toInt_le] at h2
    rw [Int32.le_iff_toInt_le, Int32.le_iff_toInt_le]
    omega
  · rw [uo 0 (by omega) (by omega)]; exact a6
  · rw [uo 0 (by omega) (by omega), uo 2 (by omega) (by omega)]; exact a7
  · rw [uo 0 (by omega) (by omega), uo 2 (by omega) (by omega)]; exact a8
  · intro _; omega
  · rw [uo 12 (by omega) (by omega)]; exact a11
  · rw [uo 13 (by omega) (by omega), uo 14 (by omega) (by omega)]; exact a13
  · intro p hp; rw [uo 13 (by omega) (by omega), uo _ (by omega) (by omega)]; exact a14 p hp
  · intro p hp; rw [uo _ (by omega) (by omega)]; exact a15 p hp
  · rw [uo 0 (by omega) (by omega), uo 13 (by omega) (by omega)]; intro h p hp; rw [uo _ (by omega) (by omega)]; exact a16 h p hp
  · rw [uo 0 (by omega) (by omega), uo 14 (by omega) (by omega)]; exact a17
theorem GD_aCor {R : Nat → Int32} (hG : GD R) (p v : Int32) : GD (aCor R p v).2.1 := by
  unfold aCor
  by_cases h0 : p < 0 ∨ R 1 ≤ p
  · rw [if_pos h0]; exact hG
  rw [if_neg h0]
  by_cases h1 : v < -10000
  · rw [if_pos h1]; exact hG
  rw [if_neg h1]
  by_cases h2 : v ≤ 10000
  · rw [if_pos h2]
    by_cases h3 : rE R = 60
    · rw [if_pos h3]; exact hG
    · rw [if_neg h3]
      rcases pl_cases hG p with h | ⟨k, hk, rfl⟩
      · exact absurd h h0
      · exact GD_cor hG (by have := hG.2.1.2; omega) hk h1 h2
  · rw [if_neg h2]; exact hG
theorem GD_rd {R : Nat → Int32} (hG : GD R) : (R 3).toNatClampNeg ≤ 30 := by
  obtain ⟨a, ha, h⟩ := hG.2.2.2.2.2.2.1.2.2.2.1
  rw [h, tn_nn _ (by omega)]; exact ha
/-- an entry more, nothing else: the State -/
theorem CR_cor {R R' : Nat → Int32} {im : zI} {lm : zJ} (hG : GD R) (hE : rE R < 60) {p s c t r c' r' : Int32} (e5 : R' 5 = nn (rE R + 1)) (q0 : R' (60 + 5 * rE R) = p) (q1 : R' (60 + 5 * rE R + 1) = s) (q2 : R' (60 + 5 * rE R + 2) = c) (q3 : R' (60 + 5 * rE R + 3) = t) (q4 : R' (60 + 5 * rE R + 4) = r) (uo : ∀ j, j ≠ 5 → (j < 60 + 5 * rE R ∨ 60 + 5 * rE R + 5 ≤ j) → R' j = R j) (hc' : c' = orN c) (hr' : r' = orN r) (hc : CR im lm 17 R) : CR (apI im (rE R) p s c' t r') lm 17 R' := by
  obtain ⟨⟨b1, b2, b3, b4⟩, b5, ⟨b6, b7⟩, b8, b9, b10, b11, b12, b13⟩ := hc
  have eE : rE R' = rE R + 1 := by unfold rE at *; rw [e5, tn_nn _ (by omega)]
  have ap := apI_n im (rE R) p s c' t r'
  have ec : ∀ p, p < 6 → cnt R' p = cnt R p := fun p hp => cnt_c hp (uo 3 (by omega) (by omega)) (uo 4 (by omega) (by omega)) (GD_rd hG) (fun j h1 h2 => uo j (by omega) (by omega))
  refine ⟨⟨?_, ?_, ?_, ?_⟩, ?_, ⟨?_, ?_⟩, ?_, ?_, ?_, ?_, ?_, ?_⟩
  · rw [ap 17 (by omega), uo _ (by omega) (by omega)]; exact b1
  · rw [ap 17 (by omega), uo _ (by omega) (by omega)]; exact b2
  · rw [ap 17 (by omega), uo _ (by omega) (by omega)]; exact b3
  · rw [ap 17 (by omega), uo _ (by omega) (by omega)]; exact b4
  · intro j hj; rw [ap (17 + 1) (by omega), uo _ (by omega) (by omega)]; exact b5 j hj
  · rw [e5]; exact u2_s _ _ _ _
  · rw [eE]; exact LgR_ap b7 (fun j h1 h2 => uo j (by omega) (by omega)) q0 q1 q2 q3 q4 hc' hr'
  · rw [uo 0 (by omega) (by omega), uo 2 (by omega) (by omega), ap (17 + 2) (by omega)]; exact b8
  · rw [uo 0 (by omega) (by omega), uo 12 (by omega) (by omega), ap (17 + 2) (by omega)]; exact b9
  · rw [uo 0 (by omega) (by omega), uo 3 (by omega) (by omega), uo 4 (by omega) (by omega), uo 14 (by omega) (by omega), ap (17 + 2) (by omega), ap (17 + 3) (by omega)]
    intro h
    obtain ⟨d1, d2, d3, d4⟩ := b10 h
    refine ⟨d1, d2, d3, fun p hp => ?_⟩
    rw [ec p hp]
    refine ⟨(d4 p hp).1, fun t ht => ?_⟩
    rw [told_c hp (fun j h1 h2 => uo j (by omega) (by omega)) t ht]
    exact (d4 p hp).2 t ht
  · intro p hp
    rw [ap (17 + 8) (by omega), ap (17 + 7) (by omega), uo _ (by omega) (by omega), uo 13 (by omega) (by omega), uo _ (by omega) (by omega)]; exact b11 p hp
  · rw [uo 0 (by omega) (by omega), ap (17 + 6) (by omega)]
    intro h
    obtain ⟨a, ha, hf⟩ := b12 h
    exact ⟨a, ha, F5_c (uo 13 (by omega) (by omega)) (uo 14 (by omega) (by omega)) (fun j h1 h2 => uo j (by omega) (by omega)) hf⟩
  · rw [uo 0 (by omega) (by omega), ap (17 + 6) (by omega)]; exact b13
theorem sc_ok {R : Nat → Int32} (hG : GD R) (p : Nat) : okR (sc R p) := okR_of (by have := GD_sc hG p; omega)
theorem DoA_cor {R : Nat → Int32} (hG : GD R) (p v : Int32) : DoA (m_115 p v) R (aCor R p v) := by
  have h6 := hG.1.2
  rcases pl_cases hG p with h | ⟨k, hk, rfl⟩
  · refine DoA_mk (by unfold aCor; rw [if_pos h]) (ret_D' _ fun im lm q hn => ?_)
    have b2 := hn.1.1.2.1
    unfold m_115; rw [b2, (pl_no hG h).1, if_pos rfl]
  have hnp : ¬ (nn k < 0 ∨ R 1 ≤ nn k) := by
    rintro (h | h)
    · exact nn_neg k (by omega) h
    · rw [hG.1.1] at h; exact nn_ge k _ hk (by omega) h
  have htn : Int32.toNatClampNeg (nn k) = k := tn_nn k (by omega)
  have py := (pl_yes hG hk).1
  by_cases h1 : v < -10000
  · refine DoA_mk (by unfold aCor; rw [if_neg hnp, if_pos h1]) (ret_D' _ fun im lm q hn => ?_)
    have b2 := hn.1.1.2.1
    unfold m_115; rw [b2, py, if_neg (by decide), if_pos h1]
  by_cases h2 : v ≤ 10000
  · have h26 : ∀ im lm q, NW im lm R q → im 26 0 = nn (rE R) := fun im lm q hn => hn.1.2.2.1.1.trans hG.2.1.1
    by_cases h3 : rE R = 60
    · refine DoA_mk (by unfold aCor; rw [if_neg hnp, if_neg h1, if_pos h2, if_pos h3]) (ref_D' hG 7 (by decide) fun im lm q hn => ?_)
      have b2 := hn.1.1.2.1
      unfold m_115
      rw [b2, py, if_neg (by decide), if_neg h1, if_pos h2, h26 im lm q hn, h3, if_neg (show ¬ nn 60 < 60 by decide), if_neg (by decide)]; rfl
    · have hE : rE R < 60 := by have := hG.2.1.2; omega
      refine DoA_mk (by unfold aCor; rw [if_neg hnp, if_neg h1, if_pos h2, if_neg h3, htn]) ?_
      intro q im lm hn
      have hG' := GD_cor hG hE hk h1 h2
      obtain ⟨e5, q0, q1, q2, q3, q4, uo⟩ := entR_e R (nn k) 4 (-1) v (-1)
      have hc1 := CR_cor hG hE e5 q0 q1 q2 q3 q4 uo (c' := -10000005) (r' := -10000005) orN_m.symm orN_m.symm hn.1
      have ap := apI_n im (rE R) (nn k) 4 (-10000005) v (-10000005)
      obtain ⟨im2, k1, k2, k3⟩ := s77 (p := k) (q := q) (by omega) hG' hc1 (by rw [ap 16 (by omega)]; exact hn.2.2.1) (by rw [ap 1 (by omega)]; exact hn.2.2.2)
      refine ⟨im2, lm, ?_, k2, FN_of (fun a ha => ap a (by omega)) k3⟩
      have b2 := hn.1.1.2.1
      have hl : nn (rE R) < 60 := by rw [(lt60 (by omega)).1]; exact hE
      unfold m_115
      rw [b2, py, if_neg (by decide), if_neg h1, if_pos h2, h26 im lm q hn, if_pos hl, if_pos rfl, s71 im lm (rE R) hE (h26 im lm q hn), zBd_s, k1, zBd_s]
  · refine DoA_mk (by unfold aCor; rw [if_neg hnp, if_neg h1, if_neg h2]) (ret_D' _ fun im lm q hn => ?_)
    have b2 := hn.1.1.2.1
    unfold m_115; rw [b2, py, if_neg (by decide), if_neg h1, if_neg h2]