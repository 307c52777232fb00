/-! ACTS: wager *-/
def wagR (R : Nat → Int32) (v : Int32) : Nat → Int32 := zeU1 (zeU1 R 12 v) 0 3
theorem wagR_e (R : Nat → Int32) (v : Int32) : wagR R v 0 = 3 ∧ wagR R v 12 = v ∧ ∀ j, j ≠ 0 → j ≠ 12 → wagR R v j = R j :=
  ⟨rfl, rfl, fun j h1 h2 => by unfold wagR; rw [u1_n _ _ _ _ h1, u1_n _ _ _ _ h2]⟩
def aWag (R : Nat → Int32) (v : Int32) : zA := if v < 0 then (-10000002, R, 0) else if v ≤ 100000 then (if R 0 = 2 then (if v ≤ limW R then (limW R, wagR R v, 0) else (-10000003, R, 5)) else (-10000003, R, 1)) else (-10000002, R, 0)
theorem sc_c {R R' : Nat → Int32} (h5 : R' 5 = R 5) (h : agK R R' (rE R)) : sc R' = sc R ∧ rE R' = rE R := by
  have eE : rE R' = rE R := by unfold rE; rw [h5]
  refine ⟨?_, eE⟩
  funext p
  unfold sc
  rw [eE, zsc_c h]
theorem ctl_c {R R' : Nat → Int32} (h5 : R' 5 = R 5) (h : agK R R' (rE R)) : ctl R' = ctl R := by
  unfold ctl
  rw [(sc_c h5 h).2, zct_c h]
theorem limW_c {R R' : Nat → Int32} (h5 : R' 5 = R 5) (h : agK R R' (rE R)) : limW R' = limW R := by
  unfold limW
  rw [(sc_c h5 h).1, ctl_c h5 h]
theorem GD_ph0 {R : Nat → Int32} (hG : GD R) (h : ¬ R 0 = 0) : 0 < rN R := hG.2.2.2.2.2.2.2.1 (Or.inl h)
theorem GD_wag {R : Nat → Int32} (hG : GD R) (h2 : R 0 = 2) {w : Nat} (hw : w ≤ 100000) : GD (wagR R (nn w)) := by
  obtain ⟨e0, e12, uo⟩ := wagR_e R (nn w)
  generalize wagR R (nn w) = R' at e0 e12 uo
  have hN : 0 < rN R := GD_ph0 hG (by rw [h2]; decide)
  obtain ⟨⟨a1, a2⟩, ⟨a3, a4⟩, a5, a6, a7, a8, a9, a10, a11, a12, a13, a14, a15, a16, a17, a18⟩ := id hG
  refine GD_ph hG (fun j hj => uo j (by omega) (by omega)) ⟨3, by omega, e0⟩ ?_ ?_ (fun _ => hN) ⟨w, hw, e12⟩ ?_ ?_ ?_ ?_ ?_
  · intro _
    obtain ⟨c, hc, h3, h4, h5⟩ := a7 (Or.inr (Or.inl h2))
    refine ⟨c, hc, by rw [uo 2 (by decide) (by decide)]; exact h3, ?_, h5⟩
    rw [h4, h2, e0]; decide
  · intro h; exact absurd (Or.inr (Or.inr e0)) h
  · rw [uo 13 (by decide) (by decide), uo 14 (by decide) (by decide)]; exact a13
  · intro p hp; rw [uo 13 (by decide) (by decide), uo _ (by omega) (by omega)]; exact a14 p hp
  · intro p hp; rw [uo _ (by omega) (by omega)]; exact a15 p hp
  · rw [e0]; intro h; exact absurd h (by decide)
  · rw [e0]; intro h; exact absurd h (by decide)
theorem wag_arg {v : Int32} (h1 : ¬ v < 0) (h2 : v ≤ 100000) : ∃ w, w ≤ 100000 ∧ v = nn w := nn_of_le (m := 100000) (Int32.not_lt.mp h1) h2 (by decide)
theorem GD_aWag {R : Nat → Int32} (hG : GD R) (v : Int32) : GD (aWag R v).2.1 := by
  unfold aWag
  by_cases h1 : v < 0
  · rw [if_pos h1]; exact hG
  rw [if_neg h1]
  by_cases h2 : v ≤ 100000
  · rw [if_pos h2]
    by_cases h3 : R 0 = 2
    · rw [if_pos h3]
      by_cases h4 : v ≤ limW R
      · rw [if_pos h4]
        obtain ⟨w, hw, rfl⟩ := wag_arg h1 h2
        exact GD_wag hG h3 hw
      · rw [if_neg h4]; exact hG
    · rw [if_neg h3]; exact hG
  · rw [if_neg h2]; exact hG
/-- a player's score, asked by its seat -/
theorem s137 (im : zI) (lm : zJ) {p : Nat} (hp : p < 6) : m_137 (nn p) im lm = some (im 33 p, im, lm) := by
  have h0 : ((if nn p < 0 then (0 : Int32) else if 6 ≤ nn p then 0 else 1) = 0) = False := eq_false (by rw [if_neg (nn_neg p (by omega)), if_neg (show ¬ (6 : Int32) ≤ nn p from nn_ge p 6 hp (by omega))]; decide)
  unfold m_137
  simp (disch := omega) only [h0, if_false, nn_mull, nn_mulr, nn_addl, nn_addr, nn_add, nn_mul, tn_nn, tn_l, inb_nn, inb_l, zCk_t, ite_self, zBd_s]
theorem DoA_wag {R : Nat → Int32} (hG : GD R) (v : Int32) : DoA (m_97 v) R (aWag R v) := by
  by_cases h1 : v < 0
  · refine DoA_mk (by unfold aWag; rw [if_pos h1]) (ret_D' _ fun im lm q hn => ?_)
    unfold m_97; rw [if_pos h1]
  by_cases h2 : v ≤ 100000
  · by_cases h3 : R 0 = 2
    · have hN : 0 < rN R := GD_ph0 hG (by rw [h3]; decide)
      obtain ⟨k1, k2⟩ := ctl_e hG hN
      have h6 := hG.1.2
      have hl : ∀ im lm q, NW im lm R q → (if im 33 (ctl R) < 500 then 500 else im 33 (ctl R)) = limW R := by
        intro im lm q hn
        rw [(hn.2.1.2.1 _ (by omega)).1, max_e]; rfl
      by_cases h4 : v ≤ limW R
      · refine DoA_mk (by unfold aWag; rw [if_neg h1, if_pos h2, if_pos h3, if_pos h4]) ?_
        intro q im lm hn
        obtain ⟨e0, e12, uo⟩ := wagR_e R v
        obtain ⟨⟨⟨b1, b2, b3, b4⟩, b5, ⟨b6, b7⟩, b8, b9, b10, b11, b12, b13⟩, _⟩ := id hn
        refine ⟨zeU2 (zeU2 im 19 3 v) 17 0 3, lm, ?_, ?_, ⟨fun a j h1 h2 => by rw [u2n _ _ _ _ _ (by omega), u2n _ _ _ _ _ (by omega)], fun _ _ _ => rfl⟩⟩
        · have hc : im 32 0 = nn (ctl R) := hn.2.1.1.trans k1
          unfold m_97
          rw [if_neg h1, if_pos h2, b1, if_pos h3, hc, s137 im lm (by omega), zBd_s, hl im lm q hn, if_pos h4]
        · refine NW_ph (fun j hj => uo j (by omega) (by omega)) (fun a ha => by rw [u2n _ _ _ _ _ (by omega), u2n _ _ _ _ _ (by omega)]) (by rw [u2_s, e0]) (fun j hj => by rw [u2_j _ _ _ _ _ _ (by omega), u2n _ _ _ _ _ (by decide)]) ?_ ?_ ?_ ?_ ?_ ?_ hn
          · intro _; rw [u2n _ _ _ _ _ (by decide), u2_j _ _ _ _ _ _ (by decide), uo 2 (by decide) (by decide)]; exact b8 (Or.inr (Or.inl h3))
          · intro _; rw [u2n _ _ _ _ _ (by decide), u2_s, e12]
          · rw [e0]; decide
          · intro p hp
            rw [u2n _ _ _ _ _ (by decide), u2n _ _ _ _ _ (by decide), u2n _ _ _ _ _ (by decide), u2n _ _ _ _ _ (by decide), uo _ (by omega) (by omega), uo _ (by omega) (by omega), uo _ (by omega) (by omega)]
            exact b11 p hp
          · rw [e0]; intro h; exact absurd h (by decide)
          · intro _; rw [u2n _ _ _ _ _ (by decide), u2n _ _ _ _ _ (by decide)]; exact b13 (Or.inr (Or.inr (Or.inl h3)))
      · refine DoA_mk (by unfold aWag; rw [if_neg h1, if_pos h2, if_pos h3, if_neg h4]) (ref_D' hG 5 (by decide) fun im lm q hn => ?_)
        have hc : im 32 0 = nn (ctl R) := hn.2.1.1.trans k1
        have b1 := hn.1.1.1
        unfold m_97
        rw [if_neg h1, if_pos h2, b1, if_pos h3, hc, s137 im lm (by omega), zBd_s, hl im lm q hn, if_neg h4]; rfl
    · refine DoA_mk (by unfold aWag; rw [if_neg h1, if_pos h2, if_neg h3]) (ref_D' hG 1 (by decide) fun im lm q hn => ?_)
      have b1 := hn.1.1.1
      unfold m_97; rw [if_neg h1, if_pos h2, b1, if_neg h3]; rfl
  · refine DoA_mk (by unfold aWag; rw [if_neg h1, if_neg h2]) (ret_D' _ fun im lm q hn => ?_)
    unfold m_97; rw [if_neg h1, if_neg h2]
/-- the model's check -/
def cWag (R : Nat → Int32) (v : Int32) : Int32 × Int32 := if v < 0 then (-10000002, 0) else if v ≤ 100000 then (if R 0 = 2 then (if v ≤ limW R then (0, 0) else (-10000003, 5)) else (-10000003, 1)) else (-10000002, 0)