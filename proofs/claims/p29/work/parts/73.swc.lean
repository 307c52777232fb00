/-! ACTS: addPlayer's row, setWagerClue, set *-/
theorem GD_add {R : Nat → Int32} (hG : GD R) (g0 : R 0 = 0) (g10 : R 10 = 0) (g6 : ¬ rN R = 6) : GD (zeU1 R 1 (nn (rN R + 1))) := by
  have uo : ∀ j, j ≠ 1 → zeU1 R 1 (nn (rN R + 1)) j = R j := fun j hj => u1_n _ _ _ _ hj
  have u1 : zeU1 R 1 (nn (rN R + 1)) 1 = nn (rN R + 1) := rfl
  generalize zeU1 R 1 (nn (rN R + 1)) = R' at uo u1
  obtain ⟨⟨a1, a2⟩, ⟨a3, a4⟩, a5, a6, a7, a8, a9, a10, a11, a12, a13, a14, a15, a16, a17, a18⟩ := hG
  have eN : rN R' = rN R + 1 := by unfold rN; rw [u1, tn_nn _ (by show rN R + 1 < _; omega)]; rfl
  have eE : rE R' = rE R := by unfold rE; rw [uo _ (by decide)]
  have ag : agK R R' (rE R) := fun j h1 _ => uo j (by omega)
  refine ⟨⟨by rw [u1, eN], by omega⟩, ⟨by rw [uo _ (by decide), eE]; exact a3, by omega⟩, ?_, ?_, ?_, ?_, ?_, ?_, ?_, ?_, ?_, ?_, ?_, ?_, ?_, ?_⟩
  · intro k hk
    rw [eE] at hk
    exact ⟨EG_c ag hk (uo _ (by decide)) (uo _ (by decide)) (a5 k hk).1, by rw [eP_c ag hk, eN]; have := (a5 k hk).2; omega⟩
  · rw [uo _ (by decide)]; exact a6
  · rw [uo 0 (by decide), uo 2 (by decide), uo 11 (by decide), uo 10 (by decide)]; exact a7
  · rw [uo 0 (by decide), uo 2 (by decide)]; exact a8
  · rw [uo 6 (by decide), uo 7 (by decide), uo 8 (by decide), uo 3 (by decide), uo 4 (by decide)]; exact a9
  · intro _; omega
  · rw [uo 12 (by decide)]; exact a11
  · rw [uo 11 (by decide), uo 10 (by decide)]; exact a12
  · intro i hi; rw [uo 13 (by decide), uo 14 (by decide)]; exact a13 i (by omega)
  · intro p hp; rw [uo 13 (by decide), uo _ (by omega)]; exact a14 p hp
  · intro p hp; rw [uo _ (by omega)]; exact a15 p hp
  · rw [uo 0 (by decide), g0]; exact fun h => absurd h (by decide)
  · rw [uo 0 (by decide), g0]; exact fun h => absurd h (by decide)
  · intro j hj; rw [uo _ (by omega)]; exact a18 j hj
theorem GD_aAdd {R : Nat → Int32} (hG : GD R) : GD (aAdd R).2.1 := by
  unfold aAdd
  by_cases g : R 10 = 0 ∧ R 0 = 0
  · rw [if_pos g]
    by_cases g6 : rN R = 6
    · rw [if_pos g6]; exact hG
    · rw [if_neg g6]; exact GD_add hG g.2 g.1 g6
  · rw [if_neg g]; exact hG
/-! setWagerClue -/
theorem lt_24 (c : Int32) : (24 < c) = (25 ≤ c) := by
  apply propext
  rw [Int32.lt_iff_toInt_lt, Int32.le_iff_toInt_le]
  have e1 : (24 : Int32).toInt = 24 := by decide +kernel
  have e2 : (25 : Int32).toInt = 25 := by decide +kernel
  omega
theorem l24p {c : Int32} (h : 25 ≤ c) : 24 < c := by rw [lt_24]; exact h
theorem l24n {c : Int32} (h : ¬ 25 ≤ c) : ¬ 24 < c := by rw [lt_24]; exact h
def wfl (R : Nat → Int32) (c : Int32) : Nat → Int32 := zeU1 R 11 (R 11 ^^^ (1 <<< (c &&& 31)))
def aSwc (R : Nat → Int32) (c b : Int32) : zA := if c < 0 then (-10000001, R, 0) else if 25 ≤ c then (-10000001, R, 0) else if R 10 = 0 ∧ R 0 = 0 then (if (if ((R 11 >>> (c &&& 31)) &&& 1) = 1 then (1 : Int32) else 0) = b then (-10000005, R, 0) else (nn (pop (wfl R c 11)), wfl R c, 0)) else (-10000003, R, 1)
theorem GD_wfl {R : Nat → Int32} (hG : GD R) (g0 : R 0 = 0) (g10 : R 10 = 0) {c : Nat} (hc : c < 25) : GD (wfl R (nn c)) := by
  unfold wfl
  have uo : ∀ j, j ≠ 11 → zeU1 R 11 (R 11 ^^^ (1 <<< (nn c &&& 31))) j = R j := fun j hj => u1_n _ _ _ _ hj
  have u1 : zeU1 R 11 (R 11 ^^^ (1 <<< (nn c &&& 31))) 11 = R 11 ^^^ (1 <<< (nn c &&& 31)) := rfl
  generalize zeU1 R 11 (R 11 ^^^ (1 <<< (nn c &&& 31))) = R' at uo u1
  obtain ⟨⟨a1, a2⟩, ⟨a3, a4⟩, a5, a6, a7, a8, a9, a10, a11, a12, a13, a14, a15, a16, a17, a18⟩ := hG
  have eN : rN R' = rN R := by unfold rN; rw [uo _ (by decide)]
  have eE : rE R' = rE R := by unfold rE; rw [uo _ (by decide)]
  have ag : agK R R' (rE R) := fun j h1 _ => uo j (by omega)
  refine ⟨⟨by rw [uo _ (by decide), eN]; exact a1, by omega⟩, ⟨by rw [uo _ (by decide), eE]; exact a3, by omega⟩, ?_, ?_, ?_, ?_, ?_, ?_, ?_, ?_, ?_, ?_, ?_, ?_, ?_, ?_⟩
  · intro k hk
    rw [eE] at hk
    refine ⟨?_, by rw [eP_c ag hk, eN]; exact (a5 k hk).2⟩
    obtain ⟨h1, h2, h3⟩ := (a5 k hk).1
    unfold EG
    rw [eP_c ag hk, uo (60 + 5 * k) (by omega), uo (60 + 5 * k + 1) (by omega), uo (60 + 5 * k + 2) (by omega), uo (60 + 5 * k + 3) (by omega), uo (60 + 5 * k + 4) (by omega), uo 10 (by decide)]
    refine ⟨h1, ?_, h3⟩
    rcases h2 with ⟨c', _, _, _, _, h4, _⟩ | h2
    · rw [g10, b_0] at h4; cases h4
    · exact Or.inr h2
  · rw [uo _ (by decide)]; exact a6
  · rw [uo 0 (by decide), g0]; exact fun h => absurd h (by decide)
  · rw [uo 0 (by decide), uo 2 (by decide)]; exact a8
  · rw [uo 6 (by decide), uo 7 (by decide), uo 8 (by decide), uo 3 (by decide), uo 4 (by decide)]; exact a9
  · rw [uo 0 (by decide), uo 10 (by decide), eN]; exact a10
  · rw [uo 12 (by decide)]; exact a11
  · intro i hi
    rw [u1, uo 10 (by decide), b_flip _ _ (by omega), (a12 i hi).2, decide_eq_false (by omega)]
    exact ⟨(a12 i hi).1, rfl⟩
  · intro i hi; rw [uo 13 (by decide), uo 14 (by decide)]; exact a13 i (by omega)
  · intro p hp; rw [uo 13 (by decide), uo _ (by omega)]; exact a14 p hp
  · intro p hp; rw [uo _ (by omega)]; exact a15 p hp
  · rw [uo 0 (by decide), g0]; exact fun h => absurd h (by decide)
  · rw [uo 0 (by decide), g0]; exact fun h => absurd h (by decide)
  · intro j hj; rw [uo _ (by omega)]; exact a18 j hj
theorem GD_aSwc {R : Nat → Int32} (hG : GD R) (c b : Int32) : GD (aSwc R c b).2.1 := by
  unfold aSwc
  by_cases h1 : c < 0
  · rw [if_pos h1]; exact hG
  rw [if_neg h1]
  by_cases h2 : 25 ≤ c
  · rw [if_pos h2]; exact hG
  rw [if_neg h2]
  by_cases g : R 10 = 0 ∧ R 0 = 0
  · rw [if_pos g]
    by_cases g6 : (if ((R 11 >>> (c &&& 31)) &&& 1) = 1 then (1 : Int32) else 0) = b
    · rw [if_pos g6]; exact hG
    · rw [if_neg g6]
      obtain ⟨k, hk, rfl⟩ := nn_of_lt (x := c) (m := 25) (Int32.not_lt.mp h1) (Int32.not_le.mp h2) (by decide)
      exact GD_wfl hG g.2 g.1 hk
  · rw [if_neg g]; exact hG
theorem ret_M' {R : Nat → Int32} (r : Int32) (hr : ¬ okR r) {M : zI → zJ → zR} (h : ∀ im lm, im 171 = R → M im lm = some (r, im, lm)) : MoA M R (r, R, 0) := by
  intro im lm X hX hm hR
  rw [h im lm hR]
  exact ⟨im, rfl, by rw [xrec_no hr]; exact hm, hR, rfl, fun _ _ => rfl⟩
theorem ret_D' {R : Nat → Int32} {D : zI → zJ → zR} (r : Int32) (h : ∀ im lm q, NW im lm R q → D im lm = some (r, im, lm)) : ∀ q, DoC D R q r R (rsn q 0) :=
  fun q im lm hn => ⟨im, lm, h im lm q hn, hn, FN_r im lm⟩
theorem ref_D' {R : Nat → Int32} {D : zI → zJ → zR} (hG : GD R) (w : Int32) (hw : ¬ w = 0) (h : ∀ im lm q, NW im lm R q → D im lm = some (-10000003, zeU2 im 16 7 w, lm)) : ∀ q, DoC D R q (-10000003) R (rsn q w) := by
  intro q im lm hn
  refine ⟨_, _, h im lm q hn, ?_, FN_q im lm w⟩
  unfold rsn
  rw [if_neg hw]
  exact NW_q hG w hn
theorem bfp {R : Nat → Int32} (g : R 10 = 0 ∧ R 0 = 0) : (if R 0 = 0 then if R 10 = 0 then (1 : Int32) else 0 else 0) = 1 ∧ (if R 10 = 0 then if R 0 = 0 then (0 : Int32) else 1 else 1) = 0 := by
  rw [g.1, g.2]; decide
theorem bfn {R : Nat → Int32} (g : ¬ (R 10 = 0 ∧ R 0 = 0)) : (if R 0 = 0 then if R 10 = 0 then (1 : Int32) else 0 else 0) = 0 ∧ (if R 10 = 0 then if R 0 = 0 then (0 : Int32) else 1 else 1) = 1 := by
  by_cases g1 : R 10 = 0
  · have g2 : ¬ R 0 = 0 := fun h => g ⟨g1, h⟩
    rw [if_neg g2, if_pos g1, if_neg g2]; exact ⟨rfl, rfl⟩
  · rw [if_neg g1, if_neg g1]
    by_cases g2 : R 0 = 0
    · rw [if_pos g2]; exact ⟨rfl, rfl⟩
    · rw [if_neg g2]; exact ⟨rfl, rfl⟩
theorem DoA_swc {R : Nat → Int32} (hG : GD R) (c b : Int32) : DoA (m_30 c b) R (aSwc R c b) := by
  by_cases h1 : c < 0
  · refine DoA_mk (by unfold aSwc; rw [if_pos h1]) (ret_D' _ fun im lm q hn => ?_)
    unfold m_30; rw [if_pos h1]; rfl
  by_cases h2 : 25 ≤ c
  · refine DoA_mk (by unfold aSwc; rw [if_neg h1, if_pos h2]) (ret_D' _ fun im lm q hn => ?_)
    unfold m_30; rw [if_neg h1, if_pos h2]; rfl
  by_cases g : R 10 = 0 ∧ R 0 = 0
  · by_cases g6 : (if ((R 11 >>> (c &&& 31)) &&& 1) = 1 then (1 : Int32) else 0) = b
    · refine DoA_mk (by unfold aSwc; rw [if_neg h1, if_neg h2, if_pos g, if_pos g6]) (ret_D' _ fun im lm q hn => ?_)
      obtain ⟨⟨⟨c1, c2, c3, c4⟩, _⟩, _⟩ := hn
      unfold m_30 J_30_43; rw [if_neg h1, if_neg h2, c1, c4, c3, (bfp g).1, if_neg (by decide), if_neg (by decide), if_pos g6]
    · refine DoA_mk (R' := wfl R c) (r := nn (pop (wfl R c 11))) (w := 0) (by unfold aSwc; rw [if_neg h1, if_neg h2, if_pos g, if_neg g6]) ?_
      intro q im lm h
      obtain ⟨k, hk, rfl⟩ := nn_of_lt (x := c) (m := 25) (Int32.not_lt.mp h1) (Int32.not_le.mp h2) (by decide)
      have hGw := GD_wfl hG g.2 g.1 hk
      have uo : ∀ j, j ≠ 11 → wfl R (nn k) j = R j := fun j hj => u1_n _ _ _ _ hj
      have u1 : wfl R (nn k) 11 = R 11 ^^^ (1 <<< (nn k &&& 31)) := rfl
      have g0 := g.2
      have e29 : ∀ im lm, m_29 (R 11 ^^^ (1 <<< (nn k &&& 31))) im lm = some (nn (pop (wfl R (nn k) 11)), im, lm) := fun im lm => by
        rw [← u1]; exact s29 _ (fun i hi => (hGw.2.2.2.2.2.2.2.2.2.1 i hi).2) im lm
      generalize wfl R (nn k) = R' at uo u1 e29
      have eE : rE R' = rE R := by unfold rE; rw [uo _ (by decide)]
      have ag : agK R R' (rE R) := fun j h1 _ => uo _ (by omega)
      obtain ⟨⟨⟨c1, c2, c3, c4⟩, c5, ⟨c6, c7⟩, c8, c9, c10, c11, c12, c13⟩, h2, h3, h4⟩ := h
      refine ⟨zeU2 im 17 2 (R 11 ^^^ (1 <<< (nn k &&& 31))), lm, ?_, ⟨⟨⟨?_, ?_, ?_, ?_⟩, ?_, ⟨?_, ?_⟩, ?_, ?_, ?_, ?_, ?_, ?_⟩, ?_, ?_, ?_⟩, ?_⟩
      · unfold m_30 J_30_43
        rw [if_neg (nn_neg k (by omega)), if_neg (show ¬ ((25 : Int32) ≤ nn k) from nn_ge k 25 hk (by omega)), c1, c4, c3, (bfp g).1, if_neg (by decide), if_neg (by decide), if_neg g6, e29]
        rfl
      · rw [u2_j _ _ _ _ _ _ (by decide), uo _ (by decide)]; exact c1
      · rw [u2_j _ _ _ _ _ _ (by decide), uo _ (by decide)]; exact c2
      · rw [u2_s, u1]
      · rw [u2_j _ _ _ _ _ _ (by decide), uo _ (by decide)]; exact c4
      · intro j hj; rw [u2n _ _ _ _ _ (by decide), uo _ (by omega)]; exact c5 j hj
      · rw [u2n _ _ _ _ _ (by decide), uo _ (by decide)]; exact c6
      · rw [eE]; exact LgR_im (fun i h1 h2 => u2n _ _ _ _ _ (by omega)) ag c7
      · rw [uo 0 (by decide), uo 2 (by decide), u2n _ _ _ _ _ (by decide)]; exact c8
      · rw [uo 0 (by decide), uo 12 (by decide), u2n _ _ _ _ _ (by decide)]; exact c9
      · rw [uo 0 (by decide), g0]; exact fun h => absurd h (by decide)
      · rw [u2n _ _ _ _ _ (by decide), u2n _ _ _ _ _ (by decide), uo 13 (by decide)]
        intro p hp; rw [uo _ (by omega), uo _ (by omega)]; exact c11 p hp
      · rw [uo 0 (by decide), g0]; exact fun h => absurd h (by decide)
      · rw [uo 0 (by decide), u2n _ _ _ _ _ (by decide)]; exact c13
      · rw [eE]; exact RpV_im (fun a h5 h6 => u2n _ _ _ _ _ (by omega)) (RpV_c ag h2)
      · rw [u2n _ _ _ _ _ (by decide)]; exact h3
      · rw [u2n _ _ _ _ _ (by decide)]; exact h4
      · exact ⟨fun a j h1 h2 => by rw [u2n _ _ _ _ _ (by omega)], fun _ _ _ => rfl⟩
  · refine DoA_mk (by unfold aSwc; rw [if_neg h1, if_neg h2, if_neg g]) (ref_D' hG 1 (by decide) fun im lm q hn => ?_)
    obtain ⟨⟨⟨c1, c2, c3, c4⟩, _⟩, _⟩ := hn
    unfold m_30; rw [if_neg h1, if_neg h2, c1, c4, (bfn g).1, if_neg (by decide), if_pos rfl]; rfl