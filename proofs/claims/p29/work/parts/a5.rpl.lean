/-! THE REPLAY in the law *-/
theorem nnm (c : Nat) (h : c < 2147483648) : ¬ nn c = -1 ∧ ¬ nn c = -10000005 := by
  have e1 : (-1 : Int32).toInt = -1 := by decide +kernel
  have e2 : (-10000005 : Int32).toInt = -10000005 := by decide +kernel
  constructor
  · rw [ti_eq, ti_nn _ h, e1]; omega
  · rw [ti_eq, ti_nn _ h, e2]; omega
theorem EG_cl {R : Nat → Int32} {k : Nat} (h : EG R k) : (∃ c, c < 25 ∧ R (60 + 5 * k + 2) = nn c) ∨ R (60 + 5 * k + 2) = -1 := by
  rcases h.2.1 with ⟨c, h1, h2, _⟩ | ⟨h1, _⟩ | ⟨h1, _⟩
  · exact Or.inl ⟨c, h1, h2⟩
  · exact Or.inr h1
  · exact Or.inr h1
theorem orN_cl {R : Nat → Int32} {k e : Nat} (hk : EG R k) (he : EG R e) : (orN (R (60 + 5 * e + 2)) = orN (R (60 + 5 * k + 2))) = (R (60 + 5 * e + 2) = R (60 + 5 * k + 2)) := by
  apply propext
  rcases EG_cl hk with ⟨c, h1, h2⟩ | h2
  · rw [h2, orN_n c (by omega), orN_nn (by omega)]
  · rw [h2, orN_m]
    rcases EG_cl he with ⟨c, h3, h4⟩ | h4
    · rw [h4, orN_n c (by omega)]
      exact ⟨fun h => absurd h (nnm c (by omega)).2, fun h => absurd h (nnm c (by omega)).1⟩
    · rw [h4, orN_m]; exact ⟨fun _ => rfl, fun _ => rfl⟩
/-- is entry k void by the entries ahead of j? -/
def vdJ (R : Nat → Int32) (k j : Nat) : Bool := decide (R (60 + 5 * k + 1) = 1) && zIt (vdF R k) j 0 false
theorem vdJ_s (R : Nat → Int32) (k j : Nat) : vdJ R k (j + 1) = (vdJ R k j || (decide (R (60 + 5 * k + 1) = 1) && (!decide (2 ≤ R (60 + 5 * j + 1)) && (decide (R (60 + 5 * j + 2) = R (60 + 5 * k + 2)) && decide (R (60 + 5 * j + 4) = 1))))) := by
  unfold vdJ
  rw [zIt_last, Nat.zero_add]
  show (decide (R (60 + 5 * k + 1) = 1) && (zIt (vdF R k) j 0 false || _)) = _
  cases decide (R (60 + 5 * k + 1) = 1) <;> simp
theorem vdJ_k (R : Nat → Int32) (k : Nat) : vdJ R k k = vd R k := rfl
theorem zb_b (b : Bool) : (zb (b = true) = 1) = (b = true) ∧ (zb (b = true) = 0) = (b = false) := by
  cases b
  · rw [zb_f (by decide)]; exact ⟨by decide, by decide⟩
  · rw [zb_t rfl]; exact ⟨by decide, by decide⟩
theorem f194_92 {im : zI} {lm : zJ} {R : Nat → Int32} {q : Int32} (hG : GD R) (h : QF im lm R q) (K : Nat → Nat → Nat → Nat → Int32 → Int32 → Nat → zI → zJ → zRn) (r1 r2 r3 r4 gn : Nat) (l5 l7 l9 l10 : Int32) (k : Nat) (hk : k < rE R) : ∀ d j n, j + d = k → d < n → F_194_92 K n r1 r2 r3 r4 l5 (nn k) l7 (R (60 + 5 * k + 1)) l9 l10 (zb (vdJ R k j = true)) (nn j) gn im lm = J_194_182 K r1 r2 r3 r4 l5 (nn k) l7 (R (60 + 5 * k + 1)) l10 (zb (vd R k = true)) gn (if vd R k = true then 0 else l9) im lm := by
  have h60 := hG.2.1.2
  intro d
  induction d with
  | zero =>
    intro j n hj hn
    obtain ⟨m, rfl⟩ : ∃ m, n = m + 1 := ⟨n - 1, by omega⟩
    have : j = k := by omega
    subst this
    unfold F_194_92
    rw [if_pos (Int32.le_refl _), vdJ_k]
    simp only [(zb_b (vd R j)).1]
  | succ d ih =>
    intro j n hj hn
    obtain ⟨m, rfl⟩ : ∃ m, n = m + 1 := ⟨n - 1, by omega⟩
    have hjE : j < rE R := by omega
    obtain ⟨a0, a1, a2, a3, a4, a5, a6, a7, a8⟩ := q_en hG hjE
    obtain ⟨b0, b1, b2, b3, b4, b5, b6, b7, b8⟩ := q_en hG hk
    have ej := (hG.2.2.1 j hjE).1
    have ek := (hG.2.2.1 k hk).1
    have ih2 := ih (j + 1) m (by omega) (by omega)
    rw [vdJ_s] at ih2
    unfold F_194_92
    rw [if_neg (show ¬ nn k ≤ nn j by rw [nn_le _ _ (by omega) (by omega)]; omega), h.2.2.2.2.1, a1, zBp_s]
    by_cases g1 : 2 ≤ R (60 + 5 * j + 1)
    · rw [if_pos g1]
      rw [decide_eq_true g1] at ih2
      simp only [Bool.not_true, Bool.false_and, Bool.and_false, Bool.or_false] at ih2
      unfold J_194_132
      rw [show nn j + 1 = nn (j + 1) from nn_addr j 1]
      by_cases g2 : R (60 + 5 * k + 1) = 1
      · rw [if_pos g2, if_pos rfl]; exact ih2
      · rw [if_neg g2]; exact ih2
    · rw [if_neg g1, h.2.2.2.2.1, a2, zBp_s, h.2.2.2.2.1, b2, zBp_s]
      rw [decide_eq_false g1] at ih2
      simp only [Bool.not_false, Bool.true_and] at ih2
      unfold J_194_132
      rw [show nn j + 1 = nn (j + 1) from nn_addr j 1]
      by_cases g2 : R (60 + 5 * k + 1) = 1
      · rw [if_pos g2]
        rw [decide_eq_true g2, Bool.true_and] at ih2
        by_cases g3 : R (60 + 5 * j + 2) = R (60 + 5 * k + 2)
        · rw [if_pos (show orN (R (60 + 5 * j + 2)) = orN (R (60 + 5 * k + 2)) by rw [g3]), if_neg (show ¬ (1 : Int32) = 0 by decide), h.2.2.2.2.1, a5, zBp_s]
          rw [decide_eq_true g3, Bool.true_and] at ih2
          by_cases g4 : R (60 + 5 * j + 4) = 1
          · rw [if_pos (show orN (R (60 + 5 * j + 4)) = 1 by rw [(or_1 ej).1]; exact g4)]
            rw [decide_eq_true g4, Bool.or_true, zb_t rfl] at ih2
            exact ih2
          · rw [if_neg (show ¬ orN (R (60 + 5 * j + 4)) = 1 by rw [(or_1 ej).1]; exact g4)]
            rw [decide_eq_false g4, Bool.or_false] at ih2
            exact ih2
        · rw [if_neg (show ¬ orN (R (60 + 5 * j + 2)) = orN (R (60 + 5 * k + 2)) by rw [orN_cl ek ej]; exact g3), if_pos rfl]
          rw [decide_eq_false g3, Bool.false_and, Bool.or_false] at ih2
          exact ih2
      · rw [if_neg g2]
        rw [decide_eq_false g2, Bool.false_and, Bool.or_false] at ih2
        exact ih2
/-- the rows hold the replay of k entries -/
def RM (im0 : zI) (R : Nat → Int32) (r1 r2 r3 r4 k : Nat) (im : zI) : Prop := (∀ a, a < 168 → im a = im0 a) ∧ ∀ q, q < 6 → im r1 q = zsc R k q ∧ im r2 q = zrt R k q ∧ im r3 q = zwr R k q ∧ im r4 q = zco R k q
def RD (gn r1 r2 r3 r4 : Nat) : Prop := (168 ≤ r1 ∧ 168 ≤ r2 ∧ 168 ≤ r3 ∧ 168 ≤ r4) ∧ (r1 ≠ r2 ∧ r1 ≠ r3 ∧ r1 ≠ r4 ∧ r2 ≠ r3 ∧ r2 ≠ r4 ∧ r3 ≠ r4) ∧ gC gn r1 = true ∧ gC gn r2 = true ∧ gC gn r3 = true ∧ gC gn r4 = true
/-- an entry's writes -/
def wr4 (im : zI) (r1 r2 r3 r4 P : Nat) (a b c d : Int32) : zI := zeU2 (zeU2 (zeU2 (zeU2 im r1 P (im r1 P + a)) r2 P (im r2 P + b)) r3 P (im r3 P + c)) r4 P (im r4 P + d)
theorem wr4_r {gn r1 r2 r3 r4 : Nat} (hd : RD gn r1 r2 r3 r4) (im : zI) (P : Nat) (a b c d : Int32) : (∀ x, x < 168 → wr4 im r1 r2 r3 r4 P a b c d x = im x) ∧ wr4 im r1 r2 r3 r4 P a b c d r1 = zeU1 (im r1) P (im r1 P + a) ∧ wr4 im r1 r2 r3 r4 P a b c d r2 = zeU1 (im r2) P (im r2 P + b) ∧ wr4 im r1 r2 r3 r4 P a b c d r3 = zeU1 (im r3) P (im r3 P + c) ∧ wr4 im r1 r2 r3 r4 P a b c d r4 = zeU1 (im r4) P (im r4 P + d) := by
  obtain ⟨⟨b1, b2, b3, b4⟩, ⟨d1, d2, d3, d4, d5, d6⟩, _⟩ := hd
  unfold wr4
  refine ⟨fun x hx => ?_, ?_, ?_, ?_, ?_⟩
  · rw [u2n _ _ _ _ _ (by omega), u2n _ _ _ _ _ (by omega), u2n _ _ _ _ _ (by omega), u2n _ _ _ _ _ (by omega)]
  · rw [u2n _ _ _ _ _ d3, u2n _ _ _ _ _ d2, u2n _ _ _ _ _ d1, u2r]
  · rw [u2n _ _ _ _ _ d5, u2n _ _ _ _ _ d4, u2r, u2n _ _ _ _ _ d1.symm]
  · rw [u2n _ _ _ _ _ d6, u2r, u2n _ _ _ _ _ d4.symm, u2n _ _ _ _ _ d2.symm]
  · rw [u2r, u2n _ _ _ _ _ d6.symm, u2n _ _ _ _ _ d5.symm, u2n _ _ _ _ _ d3.symm]
theorem j194_285 {gn r1 r2 r3 r4 : Nat} (hd : RD gn r1 r2 r3 r4) (K : Nat → Nat → Nat → Nat → Int32 → Int32 → Nat → zI → zJ → zRn) (l5 l6 l8 l10 l11 l12 x : Int32) (P : Nat) (hP : P < 6) (im : zI) (lm : zJ) : J_194_285 K r1 r2 r3 r4 l5 l6 (nn P) l8 l10 l11 l12 gn r1 (nn P) (im r1 P) x im lm = J_194_376 K r1 r2 r3 r4 l6 (nn P) l8 l10 l11 l12 gn (if l10 = 1 then if l11 = 0 then if 3 ≤ l8 then l5 else nn P else l5 else l5) (wr4 im r1 r2 r3 r4 P x (if l10 = 1 then if l11 = 0 then 1 else 0 else 0) (if l10 = 0 then if l11 = 0 then 1 else 0 else 0) (if l8 = 4 then l12 else 0)) lm := by
  obtain ⟨⟨b1, b2, b3, b4⟩, ⟨d1, d2, d3, d4, d5, d6⟩, g1, g2, g3, g4⟩ := id hd
  have ip : zeInb (nn P) 6 = true := inb_nn P 6 hP (by omega)
  have tp : Int32.toNatClampNeg (nn P) = P := tn_nn P (by omega)
  have d1' := d1.symm
  have d2' := d2.symm
  have d3' := d3.symm
  have d4' := d4.symm
  have d5' := d5.symm
  have d6' := d6.symm
  unfold J_194_285 J_194_308 J_194_330 J_194_350
  simp only [g1, g2, g3, g4, ip, tp, zCkn_t]
  simp (disch := assumption) only [u2n]
  rfl
theorem lm_eq (t l : Int32) : (if t ≤ l then t else l) = (if l ≤ t then l else t) := by
  by_cases g : t ≤ l <;> by_cases g2 : l ≤ t
  · rw [if_pos g, if_pos g2]
    rw [Int32.le_iff_toInt_le] at g g2
    rw [ti_eq]; omega
  · rw [if_pos g, if_neg g2]
  · rw [if_neg g, if_pos g2]
  · rw [Int32.le_iff_toInt_le] at g g2; omega
/-- from the amount's limit on -/
theorem j194_182 {gn r1 r2 r3 r4 : Nat} (hd : RD gn r1 r2 r3 r4) {R : Nat → Int32} {im0 im : zI} {lm : zJ} (K : Nat → Nat → Nat → Nat → Int32 → Int32 → Nat → zI → zJ → zRn) (l5 l10 : Int32) (k : Nat) (hP : eP R k < 6) (hM : RM im0 R r1 r2 r3 r4 k im) : J_194_182 K r1 r2 r3 r4 l5 (nn k) (nn (eP R k)) (R (60 + 5 * k + 1)) l10 (zb (vd R k = true)) gn (if vd R k = true then 0 else R (60 + 5 * k + 3)) im lm = J_194_285 K r1 r2 r3 r4 l5 (nn k) (nn (eP R k)) (R (60 + 5 * k + 1)) l10 (zb (vd R k = true)) (zam R k) gn r1 (nn (eP R k)) (im r1 (eP R k)) (if l10 = 0 then -zam R k else zam R k) im lm := by
  obtain ⟨_, _, g1, g2, g3, g4⟩ := id hd
  have ip : zeInb (nn (eP R k)) 6 = true := inb_nn _ 6 hP (by omega)
  have tp : Int32.toNatClampNeg (nn (eP R k)) = eP R k := tn_nn _ (by omega)
  have hx := (hM.2 _ hP).1
  have e267 : ∀ a, J_194_267 K r1 r2 r3 r4 l5 (nn k) (nn (eP R k)) (R (60 + 5 * k + 1)) l10 (zb (vd R k = true)) a gn im lm = J_194_285 K r1 r2 r3 r4 l5 (nn k) (nn (eP R k)) (R (60 + 5 * k + 1)) l10 (zb (vd R k = true)) a gn r1 (nn (eP R k)) (im r1 (eP R k)) (if l10 = 0 then -a else a) im lm := by
    intro a
    unfold J_194_267
    rw [g1, zCkn_t, ip, zCkn_t, tp]
  have ham : zam R k = amS R k (zsc R k (eP R k)) := rfl
  by_cases hv : vd R k = true
  · have hs := ((vd_iff R k).mp hv).1
    have ha : zam R k = 0 := by rw [ham]; unfold amS; rw [if_pos hv]
    rw [ha, if_pos hv, ← e267]
    unfold J_194_182
    rw [if_neg (show ¬ R (60 + 5 * k + 1) = 2 by rw [hs]; decide)]
    unfold J_194_228
    rw [if_neg (show ¬ R (60 + 5 * k + 1) = 3 by rw [hs]; decide)]
  · rw [if_neg hv, ← e267]
    unfold amS lim at ham
    rw [if_neg hv] at ham
    unfold J_194_182
    by_cases g5 : R (60 + 5 * k + 1) = 2
    · rw [if_pos g5, g1, zCkn_t, ip, zCkn_t, tp]
      unfold J_194_210 J_194_228
      rw [if_neg (show ¬ R (60 + 5 * k + 1) = 3 by rw [g5]; decide)]
      rw [if_pos g5, ← lm_eq, ← hx] at ham
      rw [ham]
    · rw [if_neg g5]
      rw [if_neg g5] at ham
      unfold J_194_228
      by_cases g6 : R (60 + 5 * k + 1) = 3
      · rw [if_pos g6, g1, zCkn_t, ip, zCkn_t, tp]
        unfold J_194_249
        rw [if_pos g6, ← lm_eq, ← hx] at ham
        rw [ham]
      · rw [if_neg g6]
        rw [if_neg g6, if_pos (Int32.le_refl _)] at ham
        rw [ham]
theorem RM_s {gn r1 r2 r3 r4 : Nat} (hd : RD gn r1 r2 r3 r4) {R : Nat → Int32} {im0 im : zI} {k : Nat} (hE : EG R k) (hP : eP R k < 6) (hM : RM im0 R r1 r2 r3 r4 k im) : RM im0 R r1 r2 r3 r4 (k + 1) (wr4 im r1 r2 r3 r4 (eP R k) (if orN (R (60 + 5 * k + 4)) = 0 then -zam R k else zam R k) (if orN (R (60 + 5 * k + 4)) = 1 then if zb (vd R k = true) = 0 then 1 else 0 else 0) (if orN (R (60 + 5 * k + 4)) = 0 then if zb (vd R k = true) = 0 then 1 else 0 else 0) (if R (60 + 5 * k + 1) = 4 then zam R k else 0)) := by
  obtain ⟨w0, w1, w2, w3, w4⟩ := wr4_r hd im (eP R k) (if orN (R (60 + 5 * k + 4)) = 0 then -zam R k else zam R k) (if orN (R (60 + 5 * k + 4)) = 1 then if zb (vd R k = true) = 0 then 1 else 0 else 0) (if orN (R (60 + 5 * k + 4)) = 0 then if zb (vd R k = true) = 0 then 1 else 0 else 0) (if R (60 + 5 * k + 1) = 4 then zam R k else 0)
  refine ⟨fun a ha => (w0 a ha).trans (hM.1 a ha), ?_⟩
  obtain ⟨p1, p2, p3, p4⟩ := hM.2 _ hP
  obtain ⟨o1, o0⟩ := or_1 hE
  have hs4 : R (60 + 5 * k + 4) = 0 ∨ R (60 + 5 * k + 4) = 1 → ¬ 4 ≤ R (60 + 5 * k + 1) := by
    rcases hE.2.1 with ⟨c, _, _, h1, _⟩ | ⟨_, h1, _⟩ | ⟨_, _, h1⟩
    · rcases h1 with h1 | h1 | h1 <;> rw [h1] <;> intro _ <;> decide
    · rw [h1]; intro _; decide
    · rw [h1]; intro h; exact absurd h (by decide)
  have zv : (zb (vd R k = true) = 0) = ¬ vd R k = true := zb_0 _
  intro q hq
  obtain ⟨q1, q2, q3, q4⟩ := hM.2 q hq
  rw [w1, w2, w3, w4]
  refine ⟨?_, ?_, ?_, ?_⟩
  · show _ = zeU1 (zsc R k) (eP R k) (zsc R k (eP R k) + dlt (R (60 + 5 * k + 4)) (zam R k)) q
    rw [u1e, u1e, p1, q1]
    unfold dlt
    simp only [o0]
  · show _ = zeU1 (zrt R k) (eP R k) (zrt R k (eP R k) + (if ¬ 4 ≤ R (60 + 5 * k + 1) ∧ R (60 + 5 * k + 4) = 1 ∧ ¬ vd R k = true then 1 else 0)) q
    have e : (if orN (R (60 + 5 * k + 4)) = 1 then if zb (vd R k = true) = 0 then (1 : Int32) else 0 else 0) = if ¬ 4 ≤ R (60 + 5 * k + 1) ∧ R (60 + 5 * k + 4) = 1 ∧ ¬ vd R k = true then 1 else 0 := by
      simp only [o1, zv]
      by_cases g1 : R (60 + 5 * k + 4) = 1
      · have g4 := hs4 (Or.inr g1)
        by_cases g2 : vd R k = true
        · rw [if_pos g1, if_neg (fun h => h g2), if_neg (fun h => h.2.2 g2)]
        · rw [if_pos g1, if_pos g2, if_pos ⟨g4, g1, g2⟩]
      · rw [if_neg g1, if_neg (fun h => g1 h.2.1)]
    rw [u1e, u1e, p2, q2, e]
  · show _ = zeU1 (zwr R k) (eP R k) (zwr R k (eP R k) + (if ¬ 4 ≤ R (60 + 5 * k + 1) ∧ R (60 + 5 * k + 4) = 0 ∧ ¬ vd R k = true then 1 else 0)) q
    have e : (if orN (R (60 + 5 * k + 4)) = 0 then if zb (vd R k = true) = 0 then (1 : Int32) else 0 else 0) = if ¬ 4 ≤ R (60 + 5 * k + 1) ∧ R (60 + 5 * k + 4) = 0 ∧ ¬ vd R k = true then 1 else 0 := by
      simp only [o0, zv]
      by_cases g1 : R (60 + 5 * k + 4) = 0
      · have g4 := hs4 (Or.inl g1)
        by_cases g2 : vd R k = true
        · rw [if_pos g1, if_neg (fun h => h g2), if_neg (fun h => h.2.2 g2)]
        · rw [if_pos g1, if_pos g2, if_pos ⟨g4, g1, g2⟩]
      · rw [if_neg g1, if_neg (fun h => g1 h.2.1)]
    rw [u1e, u1e, p3, q3, e]
  · show _ = zeU1 (zco R k) (eP R k) (zco R k (eP R k) + (if R (60 + 5 * k + 1) = 4 then zam R k else 0)) q
    rw [u1e, u1e, p4, q4]
/-- an entry's checks -/
theorem j194_376 {gn r1 r2 r3 r4 : Nat} (hd : RD gn r1 r2 r3 r4) {R : Nat → Int32} {q : Int32} {im0 im : zI} {lm : zJ} (hG : GD R) (h : QF im lm R q) (K : Nat → Nat → Nat → Nat → Int32 → Int32 → Nat → zI → zJ → zRn) (l5 : Int32) (k : Nat) (hk : k < rE R) (hM : RM im0 R r1 r2 r3 r4 (k + 1) im) : J_194_376 K r1 r2 r3 r4 (nn k) (nn (eP R k)) (R (60 + 5 * k + 1)) (orN (R (60 + 5 * k + 4))) (zb (vd R k = true)) (zam R k) gn l5 im lm = K r1 r2 r3 r4 l5 (nn (k + 1)) gn im lm := by
  obtain ⟨_, _, g1, g2, g3, g4⟩ := id hd
  obtain ⟨hE, hP⟩ := hG.2.2.1 k hk
  have hP6 : eP R k < 6 := by have := hG.1.2; omega
  have ip : zeInb (nn (eP R k)) 6 = true := inb_nn _ 6 hP6 (by omega)
  have tp : Int32.toNatClampNeg (nn (eP R k)) = eP R k := tn_nn _ (by omega)
  obtain ⟨a0, a1, a2, a3, a4, a5, a6, a7, a8⟩ := q_en hG hk
  unfold J_194_376
  rw [h.2.2.2.2.1, a4, zBp_s, if_pos rfl, h.2.2.2.2.1, a6, zBp_s, g1, zCkn_t, ip, zCkn_t, tp, if_pos (hM.2 _ hP6).1.symm, h.2.2.2.2.1, a7, zBp_s, if_pos rfl, h.2.2.2.2.1, a2, zBp_s]
  have e : ∀ x : Int32, (x = R (60 + 5 * k + 2)) → (if 0 ≤ orN x then 0 else 1 : Int32) = (if R (60 + 5 * k + 1) ≤ 2 then 0 else 1) ∧ (if 0 ≤ orN (R (60 + 5 * k + 4)) then 0 else 1 : Int32) = (if R (60 + 5 * k + 1) = 4 then 1 else 0) := by
    intro x hx
    subst hx
    rcases hE.2.1 with ⟨c, hc, h2, h1, _, _, h4⟩ | ⟨h2, h1, h4⟩ | ⟨h2, h1, h4⟩
    · have e0 : (0 : Int32) ≤ orN (R (60 + 5 * k + 2)) := by rw [h2, orN_n c (by omega), show (0 : Int32) = nn 0 from rfl, nn_le _ _ (by omega) (by omega)]; omega
      rw [if_pos e0]
      rcases h1 with h1 | h1 | h1 <;> rcases h4 with h4 | h4 <;> rw [h1, h4] <;> decide
    · rw [h2, h1]
      rcases h4 with h4 | h4 <;> rw [h4] <;> decide
    · rw [h2, h1, h4]; decide
  obtain ⟨e1, e2⟩ := e _ rfl
  unfold J_194_433 J_194_444
  rw [if_pos e1]
  unfold J_194_457 J_194_468
  rw [if_pos e2, h.2.2.2.2.1, a8, zBp_s, if_pos rfl, show nn k + 1 = nn (k + 1) from nn_addr k 1]
theorem f194_498 {gn r1 r2 r3 r4 : Nat} (hd : RD gn r1 r2 r3 r4) {R : Nat → Int32} {q : Int32} {im0 im : zI} {lm : zJ} (hG : GD R) (hN : 0 < rN R) (h : QF im lm R q) (hM : RM im0 R r1 r2 r3 r4 (rE R) im) : ∀ d p n, p + d = rN R → d < n → F_194_498 n r1 r2 r3 r4 (zct R 0 (rE R)) (smN R p) (nn p) gn im lm = some ((1, gn), im, lm) := by
  have h6 := hG.1.2
  obtain ⟨_, _, g1, g2, g3, g4⟩ := id hd
  intro d
  induction d with
  | zero =>
    intro p n hp hn
    obtain ⟨m, rfl⟩ : ∃ m, n = m + 1 := ⟨n - 1, by omega⟩
    have : p = rN R := by omega
    subst this
    have hc := QF_c h
    unfold F_194_498
    rw [hc.2.1, zBp_s, hG.1.1, if_pos (Int32.le_refl _), hc.2.2.2.2.1, zBp_s, if_neg (show ¬ rN R = 0 by omega), if_pos (ctl_e hG hN).1.symm, hc.2.2.2.2.2.2.2.1, zBp_s, if_pos rfl, hc.2.2.2.2.2.1, zBp_s, h.2.2.2.2.1, (q_no hG 0).1, zBp_s, if_pos rfl]
  | succ d ih =>
    intro p n hp hn
    obtain ⟨m, rfl⟩ : ∃ m, n = m + 1 := ⟨n - 1, by omega⟩
    have hpN : p < rN R := by omega
    have ip : zeInb (nn p) 6 = true := inb_nn _ 6 (by omega) (by omega)
    have tp : Int32.toNatClampNeg (nn p) = p := tn_nn _ (by omega)
    obtain ⟨m1, m2, m3, m4⟩ := hM.2 p (by omega)
    have m1 : im r1 p = sc R p := m1
    obtain ⟨a0, a1, a2, a3, a4, a5, a6, a7, a8⟩ := q_pl hG hpN
    unfold F_194_498
    rw [(QF_c h).2.1, zBp_s, hG.1.1, if_neg (show ¬ nn (rN R) ≤ nn p by rw [nn_le _ _ (by omega) (by omega)]; omega), g1, zCkn_t, ip, zCkn_t, h.1, a0, zBp_s, tp, if_pos m1.symm, h.1, a1, zBp_s, g2, zCkn_t, if_pos m2.symm, h.1, a2, zBp_s, g3, zCkn_t, if_pos m3.symm, h.1, a7, zBp_s, g4, zCkn_t, if_pos m4.symm, m1, show nn p + 1 = nn (p + 1) from nn_addr p 1]
    exact ih (p + 1) m (by omega) (by omega)
theorem f194_40 {gn r1 r2 r3 r4 : Nat} (hd : RD gn r1 r2 r3 r4) {R : Nat → Int32} {q : Int32} {im0 : zI} {lm : zJ} (hG : GD R) (hN : 0 < rN R) (h : ∀ im, (∀ a, a < 168 → im a = im0 a) → QF im lm R q) : ∀ d k n im, k + d = rE R → d < n → RM im0 R r1 r2 r3 r4 k im → ∃ im', F_194_40 n r1 r2 r3 r4 (zct R 0 k) (nn k) gn im lm = some ((1, gn), im', lm) ∧ ∀ a, a < 168 → im' a = im0 a := by
  have h60 := hG.2.1.2
  intro d
  induction d with
  | zero =>
    intro k n im hk hn hM
    obtain ⟨m, rfl⟩ : ∃ m, n = m + 1 := ⟨n - 1, by omega⟩
    have : k = rE R := by omega
    subst this
    have hq := h im hM.1
    refine ⟨im, ?_, hM.1⟩
    unfold F_194_40
    rw [(QF_c hq).2.2.2.2.2.1, zBp_s, hG.2.1.1, if_pos (Int32.le_refl _)]
    exact f194_498 hd hG hN hq hM (rN R) 0 2000 (by omega) (by have := hG.1.2; omega)
  | succ d ih =>
    intro k n im hk hn hM
    obtain ⟨m, rfl⟩ : ∃ m, n = m + 1 := ⟨n - 1, by omega⟩
    have hkE : k < rE R := by omega
    obtain ⟨hE, hP⟩ := hG.2.2.1 k hkE
    have hP6 : eP R k < 6 := by have := hG.1.2; omega
    have hq := h im hM.1
    obtain ⟨a0, a1, a2, a3, a4, a5, a6, a7, a8⟩ := q_en hG hkE
    have hM2 := RM_s hd hE hP6 hM
    have hq2 := h _ hM2.1
    obtain ⟨im', c1, c2⟩ := ih (k + 1) m _ (by omega) (by omega) hM2
    refine ⟨im', ?_, c2⟩
    unfold F_194_40
    rw [(QF_c hq).2.2.2.2.2.1, zBp_s, hG.2.1.1, if_neg (show ¬ nn (rE R) ≤ nn k by rw [nn_le _ _ (by omega) (by omega)]; omega), hq.2.2.2.2.1, a0, zBp_s, hq.2.2.2.2.1, a1, zBp_s, hq.2.2.2.2.1, a3, zBp_s, hq.2.2.2.2.1, a5, zBp_s]
    have e0 : (0 : Int32) = zb (vdJ R k 0 = true) := by
      have : vdJ R k 0 = false := by unfold vdJ; exact Bool.and_false _
      rw [this, zb_f (by decide)]
    have e1 := f194_92 hG hq (F_194_40 m) r1 r2 r3 r4 gn (zct R 0 k) (R (60 + 5 * k)) (R (60 + 5 * k + 3)) (orN (R (60 + 5 * k + 4))) k hkE k 0 2000 (by omega) (by omega)
    rw [← e0] at e1
    refine (show F_194_92 _ 2000 r1 r2 r3 r4 (zct R 0 k) (nn k) (R (60 + 5 * k)) (R (60 + 5 * k + 1)) (R (60 + 5 * k + 3)) (orN (R (60 + 5 * k + 4))) 0 0 gn im lm = _ from e1).trans ?_
    rw [hE.1.1, j194_182 hd (F_194_40 m) (zct R 0 k) (orN (R (60 + 5 * k + 4))) k hP6 hM, j194_285 hd _ _ _ _ _ _ _ _ _ hP6, j194_376 hd hG hq2 (F_194_40 m) _ k hkE hM2]
    have e2 : (if orN (R (60 + 5 * k + 4)) = 1 then if zb (vd R k = true) = 0 then if 3 ≤ R (60 + 5 * k + 1) then zct R 0 k else nn (eP R k) else zct R 0 k else zct R 0 k) = zct R 0 (k + 1) := by
      show _ = if ¬ 3 ≤ R (60 + 5 * k + 1) ∧ R (60 + 5 * k + 4) = 1 ∧ ¬ vd R k = true then nn (eP R k) else zct R 0 k
      obtain ⟨o1, o0⟩ := or_1 hE
      have zv : (zb (vd R k = true) = 0) = ¬ vd R k = true := zb_0 _
      simp only [o1, zv]
      by_cases g1 : R (60 + 5 * k + 4) = 1
      · rw [if_pos g1]
        by_cases g2 : vd R k = true
        · rw [if_neg (fun h => h g2), if_neg (fun h => h.2.2 g2)]
        · rw [if_pos g2]
          by_cases g3 : 3 ≤ R (60 + 5 * k + 1)
          · rw [if_pos g3, if_neg (fun h => h.1 g3)]
          · rw [if_neg g3, if_pos ⟨g3, g1, g2⟩]
      · rw [if_neg g1, if_neg (fun h => g1 h.2.1)]
    rw [e2]
    exact c1
theorem CI_new {im : zI} {lm : zJ} {R : Nat → Int32} {q : Int32} {X : zX} (hc : CI im lm R q X) {r : Nat} (hr : 168 ≤ r) (f : Nat → Int32) (g : Nat → Int64) : CI (zeU1 im r f) (zeU1 lm r g) R q X :=
  CI_fr (fun a ha => ⟨u1_n _ _ _ _ (by omega), u1_n _ _ _ _ (by omega)⟩) hc
/-- the replay checked: four rows more -/
theorem m_194_v {im : zI} {lm : zJ} {R : Nat → Int32} {q : Int32} {X : zX} (hc : CI im lm R q X) (hN : 0 < rN R) {gn : Nat} (hg : 154 ≤ gn) : ∃ im' lm', m_194 gn im lm = some ((1, gn + 4), im', lm') ∧ CI im' lm' R q X ∧ im' 0 = im 0 := by
  have hG := hc.1
  have k1 : Nat.ble 154 gn = true := g_ble_t hg
  have k2 : Nat.ble 154 (gn + 1) = true := g_ble_t (by omega)
  have k3 : Nat.ble 154 (gn + 1 + 1) = true := g_ble_t (by omega)
  have k4 : Nat.ble 154 (gn + 1 + 1 + 1) = true := g_ble_t (by omega)
  have c1 := CI_new hc (r := 16 + gn) (by omega) (fun _ => 0) (fun _ => 0)
  have c2 := CI_new c1 (r := 16 + (gn + 1)) (by omega) (fun _ => 0) (fun _ => 0)
  have c3 := CI_new c2 (r := 16 + (gn + 1 + 1)) (by omega) (fun _ => 0) (fun _ => 0)
  have c4 := CI_new c3 (r := 16 + (gn + 1 + 1 + 1)) (by omega) (fun _ => 0) (fun _ => 0)
  have hgc : ∀ r, 170 ≤ r → r < 16 + (gn + 1 + 1 + 1 + 1) → gC (gn + 1 + 1 + 1 + 1) r = true := by
    intro r h1 h2
    unfold gC
    rw [g_ble_t h1, show Nat.blt r (16 + (gn + 1 + 1 + 1 + 1)) = true from g_ble_t (by omega)]; rfl
  have hd : RD (gn + 1 + 1 + 1 + 1) (16 + gn) (16 + (gn + 1)) (16 + (gn + 1 + 1)) (16 + (gn + 1 + 1 + 1)) :=
    ⟨⟨by omega, by omega, by omega, by omega⟩, ⟨by omega, by omega, by omega, by omega, by omega, by omega⟩, hgc _ (by omega) (by omega), hgc _ (by omega) (by omega), hgc _ (by omega) (by omega), hgc _ (by omega) (by omega)⟩
  have hq := QF_of c4
  have h0 : (zeU1 (zeU1 (zeU1 (zeU1 im (16 + gn) (fun _ => 0)) (16 + (gn + 1)) (fun _ => 0)) (16 + (gn + 1 + 1)) (fun _ => 0)) (16 + (gn + 1 + 1 + 1)) (fun _ => 0)) 0 = im 0 := by
    rw [u1_n _ _ _ _ (by omega), u1_n _ _ _ _ (by omega), u1_n _ _ _ _ (by omega), u1_n _ _ _ _ (by omega)]
  unfold m_194
  rw [k1, zCkn_t, k2, zCkn_t, k3, zCkn_t, k4, zCkn_t, (QF_c hq).2.1, zBp_s, hG.1.1, if_neg (show ¬ nn (rN R) ≤ 0 from nn_ge 0 _ hN (by have := hG.1.2; omega))]
  have hM : RM (zeU1 (zeU1 (zeU1 (zeU1 im (16 + gn) (fun _ => 0)) (16 + (gn + 1)) (fun _ => 0)) (16 + (gn + 1 + 1)) (fun _ => 0)) (16 + (gn + 1 + 1 + 1)) (fun _ => 0)) R (16 + gn) (16 + (gn + 1)) (16 + (gn + 1 + 1)) (16 + (gn + 1 + 1 + 1)) 0 (zeU1 (zeU1 (zeU1 (zeU1 im (16 + gn) (fun _ => 0)) (16 + (gn + 1)) (fun _ => 0)) (16 + (gn + 1 + 1)) (fun _ => 0)) (16 + (gn + 1 + 1 + 1)) (fun _ => 0)) := by
    refine ⟨fun _ _ => rfl, fun q hq => ⟨?_, ?_, ?_, ?_⟩⟩
    · rw [u1_n _ _ _ _ (by omega), u1_n _ _ _ _ (by omega), u1_n _ _ _ _ (by omega), u1_s]; rfl
    · rw [u1_n _ _ _ _ (by omega), u1_n _ _ _ _ (by omega), u1_s]; rfl
    · rw [u1_n _ _ _ _ (by omega), u1_s]; rfl
    · rw [u1_s]; rfl
  generalize hz : zeU1 (zeU1 (zeU1 (zeU1 im (16 + gn) (fun _ => 0)) (16 + (gn + 1)) (fun _ => 0)) (16 + (gn + 1 + 1)) (fun _ => 0)) (16 + (gn + 1 + 1 + 1)) (fun _ => 0) = im4 at c4 hq h0 hM ⊢
  generalize zeU1 (zeU1 (zeU1 (zeU1 lm (16 + gn) (fun _ => 0)) (16 + (gn + 1)) (fun _ => 0)) (16 + (gn + 1 + 1)) (fun _ => 0)) (16 + (gn + 1 + 1 + 1)) (fun _ => 0) = lm4 at c4 hq ⊢
  obtain ⟨im', e1, e2⟩ := f194_40 hd hG hN (fun im2 hi => QF_of (CI_fr (fun a ha => ⟨hi a ha, rfl⟩) c4)) (rE R) 0 2000 im4 (by omega) (by have := hG.2.1.2; omega) hM
  exact ⟨im', lm4, e1, CI_fr (fun a ha => ⟨e2 a ha, rfl⟩) c4, (e2 0 (by decide)).trans h0⟩
