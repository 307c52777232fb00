/-! ACTS: checks and deeds of the model; set, close, wager -/
def ChM (M : zI → zJ → zR) (R : Nat → Int32) (code w : Int32) : Prop := ∀ im lm, im 171 = R → ∃ im', M im lm = some (code, im', lm) ∧ FM im im' ∧ im' 171 = R ∧ im' 170 5 = rsn (im 170 5) w
def DxM (M : zI → zJ → zR) (R : Nat → Int32) (r : Int32) (R' : Nat → Int32) : Prop := ∀ im lm, im 171 = R → ∃ im', M im lm = some (r, im', lm) ∧ FM im im' ∧ im' 171 = R' ∧ im' 170 5 = im 170 5
theorem FM_fr {im im' : zI} (h : FM im im') : ∀ a, (a < 170 ∨ 186 < a) → im' a = im a := fun a ha => by funext j; exact h a j (by omega) (by omega) (by omega) (by omega)
theorem ch_ret {R : Nat → Int32} {M : zI → zJ → zR} (r : Int32) (h : ∀ im lm, im 171 = R → M im lm = some (r, im, lm)) : ChM M R r 0 :=
  fun im lm hR => ⟨im, h im lm hR, FM_r im, hR, rfl⟩
theorem ch_ref {R : Nat → Int32} {M : zI → zJ → zR} (w : Int32) (hw : ¬ w = 0) (h : ∀ im lm, im 171 = R → M im lm = some (-10000003, zeU2 im 170 5 w, lm)) : ChM M R (-10000003) w := by
  intro im lm hR
  refine ⟨_, h im lm hR, fun a j h1 h2 h3 h4 => by rw [u2_e, if_neg (by omega)], (u2n _ _ _ _ _ (by decide)).trans hR, ?_⟩
  unfold rsn
  rw [if_neg hw, u2_s]
theorem FM_171 (im : zI) (j : Nat) (v : Int32) : FM im (zeU2 im 171 j v) := fun a j' h1 h2 h3 h4 => by rw [u2n _ _ _ _ _ h2]
/-! set -/
def aSet (R : Nat → Int32) (w v : Int32) : zA := if w < 0 then (-10000001, R, 0) else if w < 3 then (if v < 0 then (-10000002, R, 0) else if v ≤ (if w = 2 then 100 else 30) then (R (6 + w.toNatClampNeg), zeU1 R (6 + w.toNatClampNeg) v, 0) else (-10000002, R, 0)) else (-10000001, R, 0)
theorem GD_set {R : Nat → Int32} (hG : GD R) {k v : Nat} (hk : k < 3) (hv : v ≤ (if k = 2 then 100 else 30)) : GD (zeU1 R (6 + k) (nn v)) := by
  have uo : ∀ j, j ≠ 6 + k → zeU1 R (6 + k) (nn v) j = R j := fun j hj => u1_n _ _ _ _ hj
  have u1 : zeU1 R (6 + k) (nn v) (6 + k) = nn v := u1_s _ _ _
  generalize zeU1 R (6 + k) (nn v) = R' at uo u1
  obtain ⟨⟨a1, a2⟩, ⟨a3, a4⟩, a5, a6, a7, a8, ⟨b1, b2, b3, b4, b5⟩, a10, a11, a12, a13, a14, a15, a16, a17, a18⟩ := hG
  have eN : rN R' = rN R := by unfold rN; rw [uo _ (by omega)]
  have eE : rE R' = rE R := by unfold rE; rw [uo _ (by omega)]
  have ag : agK R R' (rE R) := fun j h1 _ => uo j (by omega)
  refine ⟨⟨by rw [uo _ (by omega), eN]; exact a1, by omega⟩, ⟨by rw [uo _ (by omega), eE]; exact a3, by omega⟩, ?_, ?_, ?_, ?_, ⟨?_, ?_, ?_, ?_, ?_⟩, ?_, ?_, ?_, ?_, ?_, ?_, ?_, ?_, ?_⟩
  · intro k hk
    rw [eE] at hk
    exact ⟨EG_c ag hk (uo _ (by omega)) (uo _ (by omega)) (a5 k hk).1, by rw [eP_c ag hk, eN]; exact (a5 k hk).2⟩
  · rw [uo _ (by omega)]; exact a6
  · rw [uo 0 (by omega), uo 2 (by omega), uo 11 (by omega), uo 10 (by omega)]; exact a7
  · rw [uo 0 (by omega), uo 2 (by omega)]; exact a8
  · by_cases g : k = 0
    · subst g; exact ⟨v, by simpa using hv, u1⟩
    · rw [uo 6 (by omega)]; exact b1
  · by_cases g : k = 1
    · subst g; exact ⟨v, by simpa using hv, u1⟩
    · rw [uo 7 (by omega)]; exact b2
  · by_cases g : k = 2
    · subst g; exact ⟨v, by simpa using hv, u1⟩
    · rw [uo 8 (by omega)]; exact b3
  · rw [uo 3 (by omega)]; exact b4
  · rw [uo 4 (by omega)]; exact b5
  · rw [uo 0 (by omega), uo 10 (by omega), eN]; exact a10
  · rw [uo 12 (by omega)]; exact a11
  · rw [uo 11 (by omega), uo 10 (by omega)]; exact a12
  · intro i hi; rw [uo 13 (by omega), uo 14 (by omega)]; exact a13 i (by omega)
  · intro p hp; rw [uo 13 (by omega), uo _ (by omega)]; exact a14 p hp
  · intro p hp; rw [uo _ (by omega)]; exact a15 p hp
  · rw [uo 0 (by omega), uo 13 (by omega)]; intro h p hp; rw [uo _ (by omega)]; exact a16 h p hp
  · rw [uo 0 (by omega), uo 14 (by omega)]; exact a17
  · intro j hj; rw [uo _ (by omega)]; exact a18 j hj
/-- the argument of set, in cases -/
theorem set_cases (w v : Int32) : (w < 0) ∨ (¬ w < 0 ∧ ¬ w < 3) ∨ ((∃ k, k < 3 ∧ w = nn k) ∧ (v < 0 ∨ (¬ v < 0 ∧ ¬ v ≤ (if w = 2 then 100 else 30)) ∨ ∃ x, v = nn x ∧ x ≤ (if w = 2 then 100 else 30))) := by
  by_cases h1 : w < 0
  · exact Or.inl h1
  by_cases h2 : w < 3
  · refine Or.inr (Or.inr ⟨?_, ?_⟩)
    · obtain ⟨k, hk, h⟩ := nn_of_lt (x := w) (m := 3) (Int32.not_lt.mp h1) h2 (by decide)
      exact ⟨k, hk, h⟩
    · by_cases h3 : v < 0
      · exact Or.inl h3
      by_cases h4 : v ≤ (if w = 2 then 100 else 30)
      · refine Or.inr (Or.inr ?_)
        by_cases g : w = 2
        · rw [if_pos g] at h4 ⊢
          obtain ⟨x, hx, h⟩ := nn_of_le (x := v) (m := 100) (Int32.not_lt.mp h3) h4 (by decide)
          exact ⟨x, h, hx⟩
        · rw [if_neg g] at h4 ⊢
          obtain ⟨x, hx, h⟩ := nn_of_le (x := v) (m := 30) (Int32.not_lt.mp h3) h4 (by decide)
          exact ⟨x, h, hx⟩
      · exact Or.inr (Or.inl ⟨h3, h4⟩)
  · exact Or.inr (Or.inl ⟨h1, h2⟩)
theorem nn_2 {k : Nat} (hk : k < 3) : (nn k = 2) = (k = 2) := by rw [show (2 : Int32) = nn 2 from rfl]; exact nn_inj _ _ (by omega) (by omega)
theorem GD_aSet {R : Nat → Int32} (hG : GD R) (w v : Int32) : GD (aSet R w v).2.1 := by
  unfold aSet
  rcases set_cases w v with h | ⟨h1, h2⟩ | ⟨⟨k, hk, rfl⟩, h | ⟨h3, h4⟩ | ⟨x, rfl, hx⟩⟩
  · rw [if_pos h]; exact hG
  · rw [if_neg h1, if_neg h2]; exact hG
  · rw [if_neg (nn_neg k (by omega)), if_pos h]
    by_cases g : nn k < 3
    · rw [if_pos g]; exact hG
    · rw [if_neg g]; exact hG
  · rw [if_neg (nn_neg k (by omega)), if_neg h3, if_neg h4]
    by_cases g : nn k < 3
    · rw [if_pos g]; exact hG
    · rw [if_neg g]; exact hG
  · have hk3 : nn k < 3 := by rw [show (3 : Int32) = nn 3 from rfl, nn_lt _ _ (by omega) (by omega)]; exact hk
    have hx' : nn x ≤ (if nn k = 2 then 100 else 30) := by
      simp only [nn_2 hk] at hx ⊢
      by_cases g : k = 2
      · rw [if_pos g] at hx ⊢; rw [show (100 : Int32) = nn 100 from rfl, nn_le _ _ (by omega) (by omega)]; exact hx
      · rw [if_neg g] at hx ⊢; rw [show (30 : Int32) = nn 30 from rfl, nn_le _ _ (by omega) (by omega)]; exact hx
    rw [if_neg (nn_neg k (by omega)), if_pos hk3, if_neg (nn_neg x (by split at hx <;> omega)), if_pos hx', tn_nn _ (by omega)]
    exact GD_set hG hk (by simp only [nn_2 hk] at hx; exact hx)

theorem CR_set {im im' : zI} {lm : zJ} {R R' : Nat → Int32} {k : Nat} {v : Int32} (hG : GD R) (hk : k < 3) (uo : ∀ j, j ≠ 6 + k → R' j = R j) (u1 : R' (6 + k) = v) (hi : im' = zeU2 im 18 k v) {q : Int32} (h : NW im lm R q) : NW im' lm R' q := by
  subst hi
  have eE : rE R' = rE R := by unfold rE; rw [uo _ (by omega)]
  have ag : agK R R' (rE R) := fun j h1 _ => uo j (by omega)
  have hrd : (R 3).toNatClampNeg ≤ 30 := by
    obtain ⟨a, ha, h⟩ := hG.2.2.2.2.2.2.1.2.2.2.1
    rw [h, tn_nn _ (by omega)]; exact ha
  have ec : ∀ p, p < 6 → cnt R' p = cnt R p := fun p hp => cnt_c hp (uo 3 (by omega)) (uo 4 (by omega)) hrd (fun j h1 h2 => uo j (by omega))
  obtain ⟨⟨⟨c1, c2, c3, c4⟩, c5, ⟨c6, c7⟩, c8, c9, c10, c11, c12, c13⟩, h2, h3, h4⟩ := h
  refine ⟨⟨⟨?_, ?_, ?_, ?_⟩, ?_, ⟨?_, ?_⟩, ?_, ?_, ?_, ?_, ?_, ?_⟩, ?_, ?_, ?_⟩
  · rw [u2n _ _ _ _ _ (by decide), uo _ (by omega)]; exact c1
  · rw [u2n _ _ _ _ _ (by decide), uo _ (by omega)]; exact c2
  · rw [u2n _ _ _ _ _ (by decide), uo _ (by omega)]; exact c3
  · rw [u2n _ _ _ _ _ (by decide), uo _ (by omega)]; exact c4
  · intro j hj
    by_cases g : j = k
    · subst g; rw [u1]; exact u2_s _ _ _ _
    · rw [uo _ (by omega), u2_j _ _ _ _ _ _ g]; exact c5 j hj
  · rw [u2n _ _ _ _ _ (by decide), uo _ (by omega)]; exact c6
  · rw [eE]; exact LgR_im (fun i h1 h2 => u2n _ _ _ _ _ (by omega)) ag c7
  · rw [uo 0 (by omega), uo 2 (by omega), u2n _ _ _ _ _ (by decide)]; exact c8
  · rw [uo 0 (by omega), uo 12 (by omega), u2n _ _ _ _ _ (by decide)]; exact c9
  · rw [uo 0 (by omega), uo 3 (by omega), uo 4 (by omega), uo 14 (by omega), u2n _ _ _ _ _ (by decide), u2n _ _ _ _ _ (by decide)]
    intro h
    obtain ⟨d1, d2, d3, d4⟩ := c10 h
    refine ⟨d1, d2, d3, ?_⟩
    intro p hp
    rw [ec p hp]
    refine ⟨(d4 p hp).1, fun t ht => ?_⟩
    rw [told_c hp (fun j h1 h2 => uo j (by omega)) t ht]
    exact (d4 p hp).2 t ht
  · rw [u2n _ _ _ _ _ (by decide), u2n _ _ _ _ _ (by decide), uo 13 (by omega)]
    intro p hp; rw [uo _ (by omega), uo _ (by omega)]; exact c11 p hp
  · rw [uo 0 (by omega), u2n _ _ _ _ _ (by decide)]
    intro h
    obtain ⟨a, ha, hf⟩ := c12 h
    exact ⟨a, ha, F5_c (uo 13 (by omega)) (uo 14 (by omega)) (fun j h1 h2 => uo j (by omega)) hf⟩
  · rw [uo 0 (by omega), u2n _ _ _ _ _ (by decide)]; exact c13
  · rw [eE]; exact RpV_im (fun a h5 h6 => u2n _ _ _ _ _ (by omega)) (RpV_c ag h2)
  · rw [u2n _ _ _ _ _ (by decide)]; exact h3
  · rw [u2n _ _ _ _ _ (by decide)]; exact h4
theorem DoA_set {R : Nat → Int32} (hG : GD R) (w v : Int32) : DoA (m_35 w v) R (aSet R w v) := by
  rcases set_cases w v with h | ⟨h1, h2⟩ | ⟨⟨k, hk, rfl⟩, h⟩
  · refine DoA_mk (by unfold aSet; rw [if_pos h]) (ret_D' _ fun im lm q hn => ?_)
    unfold m_35; simp only [h, if_true, zCk_t]
  · refine DoA_mk (by unfold aSet; rw [if_neg h1, if_neg h2]) (ret_D' _ fun im lm q hn => ?_)
    unfold m_35; simp only [h1, h2, if_false, zCk_t]
  · have hk3 : nn k < 3 := by rw [show (3 : Int32) = nn 3 from rfl, nn_lt _ _ (by omega) (by omega)]; exact hk
    have hk0 : ¬ nn k < 0 := nn_neg k (by omega)
    have htop : ∀ im lm q, NW im lm R q → im 1 k = (if nn k = 2 then 100 else 30) := by
      intro im lm q hn
      obtain ⟨_, _, _, t0, t1, t2⟩ := hn
      have : k = 0 ∨ k = 1 ∨ k = 2 := by omega
      rcases this with g | g | g <;> subst g
      · exact t0
      · exact t1
      · exact t2
    have hin : zeInb (nn k) 3 = true := inb_nn k 3 hk (by omega)
    have htn : Int32.toNatClampNeg (nn k) = k := tn_nn k (by omega)
    rcases h with h | ⟨h3, h4⟩ | ⟨x, rfl, hx⟩
    · refine DoA_mk (by unfold aSet; rw [if_neg hk0, if_pos hk3, if_pos h]) (ret_D' _ fun im lm q hn => ?_)
      unfold m_35; simp only [hk0, hk3, h, if_true, if_false, zCk_t]
    · refine DoA_mk (by unfold aSet; rw [if_neg hk0, if_pos hk3, if_neg h3, if_neg h4]) (ret_D' _ fun im lm q hn => ?_)
      unfold m_35; simp only [hk0, hk3, h3, hin, htn, htop im lm q hn, h4, if_true, if_false, zCk_t]
    · have hx0 : ¬ nn x < 0 := nn_neg x (by split at hx <;> omega)
      have hx' : nn x ≤ (if nn k = 2 then 100 else 30) := by
        simp only [nn_2 hk] at hx ⊢
        by_cases g : k = 2
        · rw [if_pos g] at hx ⊢; rw [show (100 : Int32) = nn 100 from rfl, nn_le _ _ (by omega) (by omega)]; exact hx
        · rw [if_neg g] at hx ⊢; rw [show (30 : Int32) = nn 30 from rfl, nn_le _ _ (by omega) (by omega)]; exact hx
      refine DoA_mk (by unfold aSet; rw [if_neg hk0, if_pos hk3, if_neg hx0, if_pos hx', htn]) ?_
      intro q im lm hn
      refine ⟨zeU2 im 18 k (nn x), lm, ?_, CR_set hG hk (fun j hj => u1_n _ _ _ _ hj) (u1_s _ _ _) rfl hn, ⟨fun a j h1 h2 => by rw [u2n _ _ _ _ _ (by omega)], fun _ _ _ => rfl⟩⟩
      have c5 := hn.1.2.1 k hk
      unfold m_35; simp only [hk0, hk3, hx0, hin, htn, htop im lm q hn, hx', if_true, if_false, zCk_t]
      rw [← c5]