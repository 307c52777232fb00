/-! ACTS: answer *-/
def ansB (R : Nat → Int32) (p : Nat) (s c t r x14 x0 x2 : Int32) : Nat → Int32 := zeU1 (zeU1 (zeU1 (entR R (nn p) s c t r) 14 x14) 0 x0) 2 x2
theorem ansB_e (R : Nat → Int32) (p : Nat) (s c t r x14 x0 x2 : Int32) : ansB R p s c t r x14 x0 x2 5 = nn (rE R + 1) ∧ ansB R p s c t r x14 x0 x2 (60 + 5 * rE R) = nn p ∧ ansB R p s c t r x14 x0 x2 (60 + 5 * rE R + 1) = s ∧ ansB R p s c t r x14 x0 x2 (60 + 5 * rE R + 2) = c ∧ ansB R p s c t r x14 x0 x2 (60 + 5 * rE R + 3) = t ∧ ansB R p s c t r x14 x0 x2 (60 + 5 * rE R + 4) = r ∧ ansB R p s c t r x14 x0 x2 0 = x0 ∧ ansB R p s c t r x14 x0 x2 2 = x2 ∧ ansB R p s c t r x14 x0 x2 14 = x14 ∧ ∀ j, j ≠ 0 → j ≠ 2 → j ≠ 5 → j ≠ 14 → (j < 60 + 5 * rE R ∨ 60 + 5 * rE R + 5 ≤ j) → ansB R p s c t r x14 x0 x2 j = R j := by
  obtain ⟨e5, q0, q1, q2, q3, q4, uo⟩ := entR_e R (nn p) s c t r
  unfold ansB
  refine ⟨?_, ?_, ?_, ?_, ?_, ?_, ?_, ?_, ?_, ?_⟩
  · simp (disch := omega) only [u1_n]; exact e5
  · simp (disch := omega) only [u1_n]; exact q0
  · simp (disch := omega) only [u1_n]; exact q1
  · simp (disch := omega) only [u1_n]; exact q2
  · simp (disch := omega) only [u1_n]; exact q3
  · simp (disch := omega) only [u1_n]; exact q4
  · simp (disch := omega) only [u1_n, u1_s]
  · simp (disch := omega) only [u1_s]
  · simp (disch := omega) only [u1_n, u1_s]
  · intro j h1 h2 h3 h4 h5
    rw [u1_n _ _ _ _ h2, u1_n _ _ _ _ h1, u1_n _ _ _ _ h4]
    exact uo j h3 h5
def clu (R : Nat → Int32) : Nat := (R 2).toNatClampNeg
def stA (R : Nat → Int32) : Nat := if R 14 = 0 then valC (clu R) else valC (clu R) * (R 8).toNatClampNeg / 100
def an1 (R : Nat → Int32) (p : Nat) (r : Int32) : Nat → Int32 := ansB R p (if R 14 = 0 then 0 else 1) (R 2) (nn (stA R)) r (R 14 ||| (1 <<< (nn p &&& 31))) (if r = 1 then 0 else R 0) (if r = 1 then -1 else R 2)
def an3 (R : Nat → Int32) (r : Int32) : Nat → Int32 := ansB R (ctl R) 2 (R 2) (R 12) r (R 14) 0 (-1)
def an5 (R : Nat → Int32) (p a : Nat) (r : Int32) : Nat → Int32 := ansB R p 3 (-1) (R (22 + p)) r (R 14 ||| (1 <<< (nn p &&& 31))) (if a + 1 < cntN (ptB R) 6 then 5 else 6) (R 2)
def fin7 (R : Nat → Int32) (p : Nat) (R1 : Nat → Int32) : zA := if rE R = 60 then (-10000003, R, 7) else (sc R1 p, R1, 0)
def aAns (R : Nat → Int32) (r : Int32) (a : Nat) : zA := if R 0 = 1 then (match atp (isqB R) (qaB R) (rN R) 0 with
    | none => (-10000003, R, 4)
    | some p => fin7 R p (an1 R p r)) else if R 0 = 3 then fin7 R (ctl R) (an3 R r) else if R 0 = 5 then fin7 R (nxt R a 0).toNatClampNeg (an5 R (nxt R a 0).toNatClampNeg a r) else (-10000003, R, 1)
theorem i_100 : (0 : Int32).toInt = 0 ∧ (100000 : Int32).toInt = 100000 ∧ (-100000 : Int32).toInt = -100000 := by decide +kernel
theorem amt_ok {w : Nat} (h : w ≤ 100000) : -100000 ≤ nn w ∧ nn w ≤ 100000 := by
  obtain ⟨e0, e1, e2⟩ := i_100
  rw [Int32.le_iff_toInt_le, Int32.le_iff_toInt_le, ti_nn _ (by omega), e1, e2]; omega
theorem cl_e {R : Nat → Int32} (hG : GD R) (h : R 0 = 1 ∨ R 0 = 2 ∨ R 0 = 3) : clu R < 25 ∧ R 2 = nn (clu R) ∧ (bt (R 11) (clu R) = true ↔ ¬ R 0 = 1) ∧ bt (R 10) (clu R) = true := by
  obtain ⟨c, hc, h1, h2, h3⟩ := hG.2.2.2.2.1 h
  have : clu R = c := by unfold clu; rw [h1, tn_nn _ (by omega)]
  rw [this]
  exact ⟨hc, h1, h2, h3⟩
theorem stA_le {R : Nat → Int32} (hG : GD R) (h : R 0 = 1) : stA R ≤ 500 := by
  obtain ⟨hc, _⟩ := cl_e hG (Or.inl h)
  obtain ⟨_, _, ⟨s, hs, h8⟩, _⟩ := hG.2.2.2.2.2.2.1
  have hv : valC (clu R) ≤ 500 := by unfold valC; omega
  unfold stA
  by_cases g : R 14 = 0
  · rw [if_pos g]; exact hv
  · rw [if_neg g, h8, tn_nn _ (by omega)]
    have : valC (clu R) * s ≤ 500 * 100 := Nat.mul_le_mul hv hs
    omega
theorem GD_an1 {R : Nat → Int32} (hG : GD R) (h1 : R 0 = 1) (hE : rE R < 60) {p : Nat} (hp : p < rN R) {r : Int32} (hr : r = 0 ∨ r = 1) : GD (an1 R p r) := by
  have h6 := hG.1.2
  obtain ⟨e5, q0, q1, q2, q3, q4, e0, e2, e14, uo⟩ := ansB_e R p (if R 14 = 0 then 0 else 1) (R 2) (nn (stA R)) r (R 14 ||| (1 <<< (nn p &&& 31))) (if r = 1 then 0 else R 0) (if r = 1 then -1 else R 2)
  obtain ⟨hc, hc2, hc3, hc4⟩ := cl_e hG (Or.inl h1)
  have hle := stA_le hG h1
  show GD (ansB R p (if R 14 = 0 then 0 else 1) (R 2) (nn (stA R)) r (R 14 ||| (1 <<< (nn p &&& 31))) (if r = 1 then 0 else R 0) (if r = 1 then -1 else R 2))
  generalize ansB R p (if R 14 = 0 then 0 else 1) (R 2) (nn (stA R)) r (R 14 ||| (1 <<< (nn p &&& 31))) (if r = 1 then 0 else R 0) (if r = 1 then -1 else R 2) = R' at e5 q0 q1 q2 q3 q4 e0 e2 e14 uo
  obtain ⟨⟨a1, a2⟩, ⟨a3, a4⟩, a5, a6, a7, a8, a9, a10, a11, a12, a13, a14, a15, a16, a17, a18⟩ := id hG
  have ep : eP R' (rE R) = p := by unfold eP; rw [q0, tn_nn _ (by omega)]
  have hN : 0 < rN R := by omega
  have h11 : bt (R 11) (clu R) = false := by
    cases hb : bt (R 11) (clu R)
    · rfl
    · exact absurd h1 (hc3.mp hb)
  refine GD_ap hG hE e5 (fun j h3 h4 => uo j (by omega) (by omega) (by omega) (by omega) (by omega)) ⟨⟨⟨by rw [ep]; exact q0, by omega⟩, Or.inl ⟨clu R, hc, by rw [q2]; exact hc2, ?_, ?_, ?_, by rw [q4]; exact hr⟩, ?_⟩, by omega⟩ (fun j hj => uo j (by omega) (by omega) (by omega) (by omega) (by omega)) ?_ ?_ ?_ ?_ ?_ ?_ ?_ ?_ ?_ ?_
  · rw [q1]
    by_cases g : R 14 = 0
    · rw [if_pos g]; exact Or.inl rfl
    · rw [if_neg g]; exact Or.inr (Or.inl rfl)
  · rw [q1, uo 11 (by omega) (by omega) (by omega) (by omega) (by omega), h11]
    by_cases g : R 14 = 0
    · rw [if_pos g]; exact ⟨fun h => (by cases h), fun h => absurd h (by decide)⟩
    · rw [if_neg g]; exact ⟨fun h => (by cases h), fun h => absurd h (by decide)⟩
  · rw [uo 10 (by omega) (by omega) (by omega) (by omega) (by omega)]; exact hc4
  · rw [q3]; exact amt_ok (by omega)
  · rw [e0]
    by_cases g : r = 1
    · rw [if_pos g]; exact ⟨0, by omega, rfl⟩
    · rw [if_neg g]; exact a6
  · rw [e0, e2]
    by_cases g : r = 1
    · rw [if_pos g]; intro h; exact absurd h (by decide)
    · rw [if_neg g, if_neg g]; exact a7
  · rw [e0, e2]
    by_cases g : r = 1
    · rw [if_pos g, if_pos g]; exact fun _ => rfl
    · rw [if_neg g, if_neg g]; exact a8
  · exact fun _ => hN
  · rw [uo 12 (by omega) (by omega) (by omega) (by omega) (by omega)]; exact a11
  · intro i hi
    rw [uo 13 (by omega) (by omega) (by omega) (by omega) (by omega), e14, b_set _ _ (by omega), (a13 i hi).2, decide_eq_false (by omega)]
    exact ⟨(a13 i hi).1, rfl⟩
  · intro p hp; rw [uo 13 (by omega) (by omega) (by omega) (by omega) (by omega), uo _ (by omega) (by omega) (by omega) (by omega) (by omega)]; exact a14 p hp
  · intro p hp; rw [uo _ (by omega) (by omega) (by omega) (by omega) (by omega)]; exact a15 p hp
  · rw [e0, h1]; intro h; exfalso
    by_cases g : r = 1
    · rw [if_pos g] at h; exact absurd h (by decide)
    · rw [if_neg g] at h; exact absurd h (by decide)
  · rw [e0, h1]; intro h; exfalso
    by_cases g : r = 1
    · rw [if_pos g] at h; exact absurd h (by decide)
    · rw [if_neg g] at h; exact absurd h (by decide)
theorem GD_an3 {R : Nat → Int32} (hG : GD R) (h3 : R 0 = 3) (hE : rE R < 60) {r : Int32} (hr : r = 0 ∨ r = 1) : GD (an3 R r) := by
  have h6 := hG.1.2
  have hN := GD_ph0 hG (by rw [h3]; decide)
  obtain ⟨_, hp⟩ := ctl_e hG hN
  obtain ⟨e5, q0, q1, q2, q3, q4, e0, e2, e14, uo⟩ := ansB_e R (ctl R) 2 (R 2) (R 12) r (R 14) 0 (-1)
  obtain ⟨hc, hc2, hc3, hc4⟩ := cl_e hG (Or.inr (Or.inr h3))
  show GD (ansB R (ctl R) 2 (R 2) (R 12) r (R 14) 0 (-1))
  generalize ansB R (ctl R) 2 (R 2) (R 12) r (R 14) 0 (-1) = R' at e5 q0 q1 q2 q3 q4 e0 e2 e14 uo
  obtain ⟨⟨a1, a2⟩, ⟨a3, a4⟩, a5, a6, a7, a8, a9, a10, a11, a12, a13, a14, a15, a16, a17, a18⟩ := id hG
  have ep : eP R' (rE R) = ctl R := by unfold eP; rw [q0, tn_nn _ (by omega)]
  refine GD_ap hG hE e5 (fun j h3 h4 => uo j (by omega) (by omega) (by omega) (by omega) (by omega)) ⟨⟨⟨by rw [ep]; exact q0, by omega⟩, Or.inl ⟨clu R, hc, by rw [q2]; exact hc2, ?_, ?_, ?_, by rw [q4]; exact hr⟩, ?_⟩, by omega⟩ (fun j hj => uo j (by omega) (by omega) (by omega) (by omega) (by omega)) ?_ ?_ ?_ ?_ ?_ ?_ ?_ ?_ ?_ ?_
  · exact Or.inr (Or.inr q1)
  · rw [q1, uo 11 (by omega) (by omega) (by omega) (by omega) (by omega)]
    exact ⟨fun _ => rfl, fun _ => hc3.mpr (by rw [h3]; decide)⟩
  · rw [uo 10 (by omega) (by omega) (by omega) (by omega) (by omega)]; exact hc4
  · obtain ⟨w, hw, h⟩ := a11
    rw [q3, h]; exact amt_ok hw
  · exact ⟨0, by omega, e0⟩
  · rw [e0]; intro h; exact absurd h (by decide)
  · exact fun _ => e2
  · exact fun _ => hN
  · rw [uo 12 (by omega) (by omega) (by omega) (by omega) (by omega)]; exact a11
  · rw [uo 13 (by omega) (by omega) (by omega) (by omega) (by omega), e14]; exact a13
  · intro p hp; rw [uo 13 (by omega) (by omega) (by omega) (by omega) (by omega), uo _ (by omega) (by omega) (by omega) (by omega) (by omega)]; exact a14 p hp
  · intro p hp; rw [uo _ (by omega) (by omega) (by omega) (by omega) (by omega)]; exact a15 p hp
  · rw [e0]; intro h; exact absurd h (by decide)
  · rw [e0]; intro h; exact absurd h (by decide)
theorem GD_an5 {R : Nat → Int32} (hG : GD R) (h5 : R 0 = 5) (hE : rE R < 60) {p a : Nat} (hp : p < 6) (hpt : bt (R 13) p = true) {r : Int32} (hr : r = 0 ∨ r = 1) : GD (an5 R p a r) := by
  have h6 := hG.1.2
  have hN := GD_ph0 hG (by rw [h5]; decide)
  obtain ⟨e5, q0, q1, q2, q3, q4, e0, e2, e14, uo⟩ := ansB_e R p 3 (-1) (R (22 + p)) r (R 14 ||| (1 <<< (nn p &&& 31))) (if a + 1 < cntN (ptB R) 6 then 5 else 6) (R 2)
  show GD (ansB R p 3 (-1) (R (22 + p)) r (R 14 ||| (1 <<< (nn p &&& 31))) (if a + 1 < cntN (ptB R) 6 then 5 else 6) (R 2))
  generalize ansB R p 3 (-1) (R (22 + p)) r (R 14 ||| (1 <<< (nn p &&& 31))) (if a + 1 < cntN (ptB R) 6 then 5 else 6) (R 2) = R' at e5 q0 q1 q2 q3 q4 e0 e2 e14 uo
  obtain ⟨⟨a1, a2⟩, ⟨a3, a4⟩, a5, a6, a7, a8, a9, a10, a11, a12, a13, a14, a15, a16, a17, a18⟩ := id hG
  have ep : eP R' (rE R) = p := by unfold eP; rw [q0, tn_nn _ (by omega)]
  have hpN : p < rN R := by
    rcases Nat.lt_or_ge p (rN R) with g | g
    · exact g
    · rw [(a13 p g).1] at hpt; cases hpt
  have e0c : R' 0 = 5 ∨ R' 0 = 6 := by
    rw [e0]
    by_cases g : a + 1 < cntN (ptB R) 6
    · rw [if_pos g]; exact Or.inl rfl
    · rw [if_neg g]; exact Or.inr rfl
  refine GD_ap hG hE e5 (fun j h3 h4 => uo j (by omega) (by omega) (by omega) (by omega) (by omega)) ⟨⟨⟨by rw [ep]; exact q0, by omega⟩, Or.inr (Or.inl ⟨q2, q1, by rw [q4]; exact hr⟩), ?_⟩, by omega⟩ (fun j hj => uo j (by omega) (by omega) (by omega) (by omega) (by omega)) ?_ ?_ ?_ ?_ ?_ ?_ ?_ ?_ ?_ ?_
  · rcases a15 p hp with h | ⟨w, hw, h⟩
    · exact absurd h (a16 h5 p hp hpt)
    · rw [q3, h]; exact amt_ok hw
  · rcases e0c with h | h
    · exact ⟨5, by omega, h⟩
    · exact ⟨6, by omega, h⟩
  · rcases e0c with h | h <;> rw [h] <;> intro h <;> exact absurd h (by decide)
  · intro _; rw [e2]; exact a8 (by rw [h5]; decide)
  · exact fun _ => hN
  · rw [uo 12 (by omega) (by omega) (by omega) (by omega) (by omega)]; exact a11
  · intro i hi
    rw [uo 13 (by omega) (by omega) (by omega) (by omega) (by omega), e14, b_set _ _ (by omega), (a13 i hi).2, decide_eq_false (by omega)]
    exact ⟨(a13 i hi).1, rfl⟩
  · intro p hp; rw [uo 13 (by omega) (by omega) (by omega) (by omega) (by omega), uo _ (by omega) (by omega) (by omega) (by omega) (by omega)]; exact a14 p hp
  · intro p hp; rw [uo _ (by omega) (by omega) (by omega) (by omega) (by omega)]; exact a15 p hp
  · intro _ p hp; rw [uo 13 (by omega) (by omega) (by omega) (by omega) (by omega), uo _ (by omega) (by omega) (by omega) (by omega) (by omega)]; exact a16 h5 p hp
  · rcases e0c with h | h <;> rw [h] <;> intro h <;> exact absurd h (by decide)
theorem nxt_0 {R : Nat → Int32} {a : Nat} (h : a < cntN (ptB R) 6) : (nxt R a 0).toNatClampNeg < 6 ∧ bt (R 13) (nxt R a 0).toNatClampNeg = true ∧ plc (ptB R) (flB R) 6 (nxt R a 0).toNatClampNeg = a ∧ ∀ no, nxt R a no = nn (nxt R a 0).toNatClampNeg := by
  obtain ⟨p, h1, h2, h3, h4⟩ := nxt_some 0 h
  have e : (nxt R a 0).toNatClampNeg = p := by rw [h4, tn_nn _ (by omega)]
  rw [e]
  refine ⟨h1, h2, h3, fun no => ?_⟩
  obtain ⟨p', g1, g2, g3, g4⟩ := nxt_some no h
  rw [g4, plc_inj _ _ (fl_o R) 6 p' p g1 g2 h1 h2 (g3.trans h3.symm)]
theorem GD_aAns {R : Nat → Int32} (hG : GD R) {r : Int32} (hr : r = 0 ∨ r = 1) {a : Nat} (h5 : R 0 = 5 → F5 R a) : GD (aAns R r a).2.1 := by
  have hf7 : ∀ p R1, (rE R < 60 → GD R1) → GD (fin7 R p R1).2.1 := fun p R1 h => by
    unfold fin7
    by_cases g : rE R = 60
    · rw [if_pos g]; exact hG
    · rw [if_neg g]; exact h (by have := hG.2.1.2; omega)
  unfold aAns
  by_cases g1 : R 0 = 1
  · rw [if_pos g1]
    cases ha : atp (isqB R) (qaB R) (rN R) 0 with
    | none => exact hG
    | some p => exact hf7 _ _ fun hE => GD_an1 hG g1 hE ((atp_some _ _ (qa_o R) _ _ _).mp ha).1 hr
  rw [if_neg g1]
  by_cases g3 : R 0 = 3
  · rw [if_pos g3]; exact hf7 _ _ fun hE => GD_an3 hG g3 hE hr
  rw [if_neg g3]
  by_cases g5 : R 0 = 5
  · rw [if_pos g5]
    obtain ⟨n1, n2, n3, n4⟩ := nxt_0 (h5 g5).1
    exact hf7 _ _ fun hE => GD_an5 hG g5 hE n1 n2 hr
  · rw [if_neg g5]; exact hG
