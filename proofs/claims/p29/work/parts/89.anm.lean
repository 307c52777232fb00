/-! ACTS: answer, class and model *-/
theorem zBd_id (x : zR) : zBd x (fun v im lm => some (v, im, lm)) = x := by
  cases x with
  | none => rfl
  | some y => obtain ⟨v, im, lm⟩ := y; rfl
theorem DoC_of {D D' : zI → zJ → zR} {R R' : Nat → Int32} {q r q' : Int32} (h : ∀ im lm, NW im lm R q → D im lm = D' im lm) (hD : DoC D' R q r R' q') : DoC D R q r R' q' := by
  intro im lm hn
  obtain ⟨im', lm', h1, h2, h3⟩ := hD im lm hn
  exact ⟨im', lm', (h im lm hn).trans h1, h2, h3⟩
theorem ph_cases {R : Nat → Int32} (hG : GD R) : R 0 = 0 ∨ R 0 = 1 ∨ R 0 = 2 ∨ R 0 = 3 ∨ R 0 = 4 ∨ R 0 = 5 ∨ R 0 = 6 := by
  obtain ⟨ph, h, e⟩ := hG.2.2.2.1
  have : ph = 0 ∨ ph = 1 ∨ ph = 2 ∨ ph = 3 ∨ ph = 4 ∨ ph = 5 ∨ ph = 6 := by omega
  rcases this with g | g | g | g | g | g | g <;> subst g
  · exact Or.inl e
  · exact Or.inr (Or.inl e)
  · exact Or.inr (Or.inr (Or.inl e))
  · exact Or.inr (Or.inr (Or.inr (Or.inl e)))
  · exact Or.inr (Or.inr (Or.inr (Or.inr (Or.inl e))))
  · exact Or.inr (Or.inr (Or.inr (Or.inr (Or.inr (Or.inl e)))))
  · exact Or.inr (Or.inr (Or.inr (Or.inr (Or.inr (Or.inr e)))))
theorem m85_n {R : Nat → Int32} (hG : GD R) (h : ¬ (R 0 = 1 ∨ R 0 = 3 ∨ R 0 = 5)) (l : Int32) {im : zI} {lm : zJ} {q : Int32} (hn : NW im lm R q) : m_85 l im lm = some (-10000003, zeU2 im 16 7 1, lm) := by
  unfold m_85
  rw [hn.1.1.1, if_neg (fun g => h (Or.inl g)), if_neg (fun g => h (Or.inr (Or.inl g))), if_neg (fun g => h (Or.inr (Or.inr g)))]; rfl
theorem nful {R : Nat → Int32} {im : zI} (h : im 26 0 = nn (rE R)) (g : rE R = 60) : ¬ (if im 26 0 < 60 then 0 else 1 : Int32) = 0 := by
  rw [h, g]; decide
theorem DoA_ans {R : Nat → Int32} (hG : GD R) (l : Int32) {a : Nat} (hF : R 0 = 5 → F5 R a) : DoA (m_85 l) R (aAns R (r01 l) a) := by
  have hE := hG.2.1.2
  by_cases g1 : R 0 = 1
  · cases hat : atp (isqB R) (qaB R) (rN R) 0 with
    | none =>
      refine DoA_mk (by unfold aAns; rw [if_pos g1, hat]) (ref_D' hG 4 (by decide) fun im lm q hn => ?_)
      have hq : qat R 0 = -10000005 := by unfold qat; rw [hat]
      rw [m85_go hn (Or.inl g1)]
      unfold J_85_39
      rw [m8_1 hG hn g1, hq, zBd_s, if_pos (show (-10000005 : Int32) < 0 by decide), if_pos rfl]; rfl
    | some p =>
      have hp := ((atp_some _ _ (qa_o R) _ _ _).mp hat).1
      by_cases g : rE R = 60
      · refine DoA_mk (by unfold aAns fin7; rw [if_pos g1, hat]; simp only [g, if_true]) (ref_D' hG 7 (by decide) fun im lm q hn => ?_)
        have hq : qat R 0 = nn p := by unfold qat; rw [hat]
        exact (m85_go hn (Or.inl g1) l).trans ((j85 hG hn (by rw [m8_1 hG hn g1, hq]) hp l).trans (if_neg (by omega)))
      · refine DoA_mk (r := sc (an1 R p (r01 l)) p) (R' := an1 R p (r01 l)) (w := 0) (by unfold aAns fin7; rw [if_pos g1, hat]; simp only [g, if_false]) fun q => ?_
        exact D_an1 hG g1 (by omega) hp hat l q
  by_cases g3 : R 0 = 3
  · have hN := GD_ph0 hG (by rw [g3]; decide)
    by_cases g : rE R = 60
    · refine DoA_mk (by unfold aAns fin7; rw [if_neg g1, if_pos g3, if_pos g]) (ref_D' hG 7 (by decide) fun im lm q hn => ?_)
      exact (m85_go hn (Or.inr (Or.inl g3)) l).trans ((j85 hG hn (m8_3 hG hn g3) (ctl_e hG hN).2 l).trans (if_neg (by omega)))
    · refine DoA_mk (r := sc (an3 R (r01 l)) (ctl R)) (R' := an3 R (r01 l)) (w := 0) (by unfold aAns fin7; rw [if_neg g1, if_pos g3, if_neg g]) fun q => ?_
      exact D_an3 hG g3 (by omega) l q
  by_cases g5 : R 0 = 5
  · by_cases g : rE R = 60
    · refine DoA_mk (by unfold aAns fin7; rw [if_neg g1, if_neg g3, if_pos g5, if_pos g]) (ref_D' hG 7 (by decide) fun im lm q hn => ?_)
      obtain ⟨n1, n2, n3, n4⟩ := nxt_0 (hF g5).1
      exact (m85_go hn (Or.inr (Or.inr g5)) l).trans ((j85 hG hn (by rw [m8_5 hG hn g5 (hF g5), n4]) (fin_pl hG n2) l).trans (if_neg (by omega)))
    · refine DoA_mk (r := sc (an5 R (nxt R a 0).toNatClampNeg a (r01 l)) (nxt R a 0).toNatClampNeg) (R' := an5 R (nxt R a 0).toNatClampNeg a (r01 l)) (w := 0) (by unfold aAns fin7; rw [if_neg g1, if_neg g3, if_pos g5, if_neg g]) fun q => ?_
      exact D_an5 hG g5 (by omega) (hF g5) l q
  · refine DoA_mk (by unfold aAns; rw [if_neg g1, if_neg g3, if_neg g5]) (ref_D' hG 1 (by decide) fun im lm q hn => ?_)
    exact m85_n hG (by rintro (h | h | h); exact g1 h; exact g3 h; exact g5 h) l hn
/-! the model -/
def cAns (R : Nat → Int32) : Int32 × Int32 := if R 0 = 1 ∨ R 0 = 3 ∨ R 0 = 5 then (if R 0 = 1 ∧ cntN (isqB R) (rN R) = 0 then (-10000003, 4) else if rE R = 60 then (-10000003, 7) else (0, 0)) else (-10000003, 1)