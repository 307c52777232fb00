/-! RANKS in the law *-/
theorem cntN_mo {f g : Nat → Bool} : ∀ n, (∀ k, k < n → f k = true → g k = true) → cntN f n ≤ cntN g n := by
  intro n
  induction n with
  | zero => intro _; exact Nat.le_refl _
  | succ n ih =>
    intro h
    have h1 := ih (fun k hk => h k (by omega))
    show cntN f n + (if f n = true then 1 else 0) ≤ cntN g n + (if g n = true then 1 else 0)
    by_cases g1 : f n = true
    · rw [if_pos g1, if_pos (h n (by omega) g1)]; omega
    · rw [if_neg g1]; omega
theorem cntN_ms {f g : Nat → Bool} {x : Nat} (hg : g x = true) (hf : f x = false) : ∀ n, x < n → (∀ k, k < n → f k = true → g k = true) → cntN f n < cntN g n := by
  intro n
  induction n with
  | zero => intro h; omega
  | succ n ih =>
    intro hx h
    show cntN f n + (if f n = true then 1 else 0) < cntN g n + (if g n = true then 1 else 0)
    by_cases e : x = n
    · subst e
      have := cntN_mo (f := f) (g := g) x (fun k hk => h k (by omega))
      rw [if_pos hg, if_neg (by rw [hf]; decide)]; omega
    · have := ih (by omega) (fun k hk => h k (by omega))
      by_cases g1 : f n = true
      · rw [if_pos g1, if_pos (h n (by omega) g1)]; omega
      · rw [if_neg g1]; omega
theorem plc_mo {sel : Nat → Bool} {lt : Nat → Nat → Bool} (hl : StO lt) {n x y : Nat} (hx : x < n) (hs : sel x = true) (h : lt x y = true) : plc sel lt n x < plc sel lt n y := by
  unfold plc
  refine cntN_ms (x := x) ?_ ?_ n hx ?_
  · rw [hs, h]; rfl
  · rw [hl.1, Bool.and_false]
  · intro k _ hk
    rw [Bool.and_eq_true] at hk ⊢
    exact ⟨hk.1, hl.2.1 _ _ _ hk.2 h⟩
theorem plc_cv {sel : Nat → Bool} {lt : Nat → Nat → Bool} (hl : StO lt) {n x y : Nat} (hy : y < n) (hs : sel y = true) (h : plc sel lt n x < plc sel lt n y) : lt x y = true := by
  cases hb : lt x y with
  | true => rfl
  | false =>
    exfalso
    by_cases e : x = y
    · subst e; omega
    · have := plc_mo hl hy hs (hl.2.2 _ _ hb e); omega
theorem pat_ex {R : Nat → Int32} {k : Nat} (hk : k < rN R) : ∃ p, p < rN R ∧ plc allB (bfB R) (rN R) p = k ∧ ∀ no, pat R k no = nn p := by
  cases h : atp allB (bfB R) (rN R) k with
  | none => have := (atp_none _ _ _ _).mp h; rw [cntN_all] at this; omega
  | some p =>
    obtain ⟨h1, _, h2⟩ := (atp_some _ _ (bf_o R) _ _ _).mp h
    refine ⟨p, h1, h2, fun no => ?_⟩
    unfold pat; rw [h]
theorem pat_no {R : Nat → Int32} (no : Int32) : pat R (rN R) no = no := by
  have h := (atp_none allB (bfB R) (rN R) (rN R)).mpr (by rw [cntN_all]; exact Nat.le_refl _)
  unfold pat; rw [h]
theorem zrt_b (R : Nat → Int32) : ∀ k, k ≤ 60 → ∀ q, 0 ≤ (zrt R k q).toInt ∧ (zrt R k q).toInt ≤ k := by
  obtain ⟨e2, e1, e0, em⟩ := i_lits
  intro k
  induction k with
  | zero => intro _ q; show 0 ≤ (0 : Int32).toInt ∧ (0 : Int32).toInt ≤ ((0 : Nat) : Int); rw [e0]; omega
  | succ k ih =>
    intro hk q
    show 0 ≤ (zeU1 (zrt R k) (eP R k) (zrt R k (eP R k) + (if ¬ 4 ≤ R (60 + 5 * k + 1) ∧ R (60 + 5 * k + 4) = 1 ∧ ¬ vd R k = true then 1 else 0)) q).toInt ∧ (zeU1 (zrt R k) (eP R k) (zrt R k (eP R k) + (if ¬ 4 ≤ R (60 + 5 * k + 1) ∧ R (60 + 5 * k + 4) = 1 ∧ ¬ vd R k = true then 1 else 0)) q).toInt ≤ ((k + 1 : Nat) : Int)
    rw [u1e]
    have h1 := ih (by omega) q
    have h2 := ih (by omega) (eP R k)
    by_cases g : q = eP R k
    · rw [if_pos g]
      by_cases g2 : ¬ 4 ≤ R (60 + 5 * k + 1) ∧ R (60 + 5 * k + 4) = 1 ∧ ¬ vd R k = true
      · rw [if_pos g2, ti_add _ _ (by rw [e1]; omega) (by rw [e1]; omega), e1]; omega
      · rw [if_neg g2, ti_add _ _ (by rw [e0]; omega) (by rw [e0]; omega), e0]; omega
    · rw [if_neg g]; omega
theorem zwr_b (R : Nat → Int32) : ∀ k, k ≤ 60 → ∀ q, 0 ≤ (zwr R k q).toInt ∧ (zwr R k q).toInt ≤ k := by
  obtain ⟨e2, e1, e0, em⟩ := i_lits
  intro k
  induction k with
  | zero => intro _ q; show 0 ≤ (0 : Int32).toInt ∧ (0 : Int32).toInt ≤ ((0 : Nat) : Int); rw [e0]; omega
  | succ k ih =>
    intro hk q
    show 0 ≤ (zeU1 (zwr R k) (eP R k) (zwr R k (eP R k) + (if ¬ 4 ≤ R (60 + 5 * k + 1) ∧ R (60 + 5 * k + 4) = 0 ∧ ¬ vd R k = true then 1 else 0)) q).toInt ∧ (zeU1 (zwr R k) (eP R k) (zwr R k (eP R k) + (if ¬ 4 ≤ R (60 + 5 * k + 1) ∧ R (60 + 5 * k + 4) = 0 ∧ ¬ vd R k = true then 1 else 0)) q).toInt ≤ ((k + 1 : Nat) : Int)
    rw [u1e]
    have h1 := ih (by omega) q
    have h2 := ih (by omega) (eP R k)
    by_cases g : q = eP R k
    · rw [if_pos g]
      by_cases g2 : ¬ 4 ≤ R (60 + 5 * k + 1) ∧ R (60 + 5 * k + 4) = 0 ∧ ¬ vd R k = true
      · rw [if_pos g2, ti_add _ _ (by rw [e1]; omega) (by rw [e1]; omega), e1]; omega
      · rw [if_neg g2, ti_add _ _ (by rw [e0]; omega) (by rw [e0]; omega), e0]; omega
    · rw [if_neg g]; omega
theorem sub_sg {a b : Int32} (ha : -6000000 ≤ a.toInt ∧ a.toInt ≤ 6000000) (hb : -6000000 ≤ b.toInt ∧ b.toInt ≤ 6000000) : (a - b < 0) = (a < b) ∧ (a - b = 0) = (a = b) := by
  obtain ⟨e2, e1, e0, em⟩ := i_lits
  have h := ti_sub a b (by omega) (by omega)
  constructor
  · apply propext; rw [Int32.lt_iff_toInt_lt, Int32.lt_iff_toInt_lt, h, e0]; omega
  · apply propext; rw [ti_eq, ti_eq a b, h, e0]; omega
def ldb (R : Nat → Int32) (p : Nat) : Int32 := if cntN (abB R (sc R p)) (rN R) = 0 then 1 <<< (nn p &&& 31) else 0
def pp (R : Nat → Int32) (k : Nat) : Nat := (pat R k (-10000005)).toNatClampNeg
def ldA (R : Nat → Int32) : Nat → Int32
  | 0 => 0
  | k + 1 => ldA R k ||| ldb R (pp R k)
theorem pp_v {R : Nat → Int32} {k : Nat} (hk : k < rN R) (h6 : rN R ≤ 6) : pp R k < rN R ∧ plc allB (bfB R) (rN R) (pp R k) = k ∧ ∀ no, pat R k no = nn (pp R k) := by
  obtain ⟨p, h1, h2, h3⟩ := pat_ex hk
  have : pp R k = p := by unfold pp; rw [h3, tn_nn _ (by omega)]
  rw [this]; exact ⟨h1, h2, h3⟩
theorem ldb_b (R : Nat → Int32) {p i : Nat} (hp : p < 32) : bt (ldb R p) i = true ↔ i = p ∧ cntN (abB R (sc R p)) (rN R) = 0 := by
  unfold ldb
  by_cases g : cntN (abB R (sc R p)) (rN R) = 0
  · rw [if_pos g, b_sh1 p hp, decide_eq_true_eq]; exact ⟨fun h => ⟨h, g⟩, fun h => h.1⟩
  · rw [if_neg g, b_0]; exact ⟨fun h => (by cases h), fun h => absurd h.2 g⟩
theorem ldA_b {R : Nat → Int32} (h6 : rN R ≤ 6) (i : Nat) : ∀ k, k ≤ rN R → (bt (ldA R k) i = true ↔ ∃ j, j < k ∧ i = pp R j ∧ cntN (abB R (sc R i)) (rN R) = 0) := by
  intro k
  induction k with
  | zero => intro _; show bt 0 i = true ↔ _; rw [b_0]; exact ⟨fun h => (by cases h), fun ⟨j, h, _⟩ => (by omega)⟩
  | succ k ih =>
    intro hk
    have hp := (pp_v (R := R) (k := k) (by omega) h6).1
    show bt (ldA R k ||| ldb R (pp R k)) i = true ↔ _
    rw [b_or, Bool.or_eq_true, ih (by omega), ldb_b R (by omega)]
    constructor
    · rintro (⟨j, h1, h2, h3⟩ | ⟨h1, h2⟩)
      · exact ⟨j, by omega, h2, h3⟩
      · exact ⟨k, by omega, h1, by rw [h1]; exact h2⟩
    · rintro ⟨j, h1, h2, h3⟩
      by_cases g : j = k
      · subst g; exact Or.inr ⟨h2, by rw [← h2]; exact h3⟩
      · exact Or.inl ⟨j, by omega, h2, h3⟩
theorem ldS_b (R : Nat → Int32) (i : Nat) : ∀ d k x, k + d ≤ 6 → (bt (zIt (ldS R) d k x) i = true ↔ bt x i = true ∨ (k ≤ i ∧ i < k + d ∧ cntN (abB R (sc R i)) (rN R) = 0)) := by
  intro d
  induction d with
  | zero => intro k x _; show bt x i = true ↔ _; exact ⟨Or.inl, fun h => h.elim id (fun h => by omega)⟩
  | succ d ih =>
    intro k x hk
    show bt (zIt (ldS R) d (k + 1) (ldS R k x)) i = true ↔ _
    rw [ih (k + 1) _ (by omega)]
    unfold ldS
    by_cases g : cntN (abB R (sc R k)) (rN R) = 0
    · rw [if_pos g, b_set x k (by omega), Bool.or_eq_true, decide_eq_true_eq]
      constructor
      · rintro ((h | h) | ⟨h1, h2, h3⟩)
        · exact Or.inl h
        · subst h; exact Or.inr ⟨by omega, by omega, g⟩
        · exact Or.inr ⟨by omega, by omega, h3⟩
      · rintro (h | ⟨h1, h2, h3⟩)
        · exact Or.inl (Or.inl h)
        · by_cases e : i = k
          · exact Or.inl (Or.inr e)
          · exact Or.inr ⟨by omega, by omega, h3⟩
    · rw [if_neg g]
      constructor
      · rintro (h | ⟨h1, h2, h3⟩)
        · exact Or.inl h
        · exact Or.inr ⟨by omega, by omega, h3⟩
      · rintro (h | ⟨h1, h2, h3⟩)
        · exact Or.inl h
        · by_cases e : i = k
          · subst e; exact absurd h3 g
          · exact Or.inr ⟨by omega, by omega, h3⟩
theorem ld_eq {R : Nat → Int32} (h6 : rN R ≤ 6) : zIt (ldS R) (rN R) 0 0 = ldA R (rN R) := by
  apply b_ext
  intro i _
  rw [Bool.eq_iff_iff, ldS_b R i (rN R) 0 0 (by omega), ldA_b h6 i (rN R) (Nat.le_refl _), b_0]
  constructor
  · rintro (h | ⟨_, h2, h3⟩)
    · cases h
    · have hlt := plc_lt allB (bfB R) (bf_o R) (rN R) i (by omega) rfl
      rw [cntN_all] at hlt
      obtain ⟨p1, p2, _⟩ := pp_v hlt h6
      exact ⟨_, hlt, (plc_inj allB (bfB R) (bf_o R) (rN R) _ _ p1 rfl (by omega) rfl p2).symm, h3⟩
  · rintro ⟨j, h1, h2, h3⟩
    have := (pp_v h1 h6).1
    exact Or.inr ⟨Nat.zero_le _, by omega, h3⟩
theorem f195_28 {im : zI} {lm : zJ} {R : Nat → Int32} {q : Int32} (hG : GD R) (h : QF im lm R q) (K : Int32 → Int32 → Int32 → zI → zJ → zR) (l2 l3 : Int32) (p : Nat) (hp : p < rN R) : ∀ d j n, j + d = rN R → d < n → F_195_28 K n (nn (rN R)) l2 l3 (nn p) (nn (1 + cntN (abB R (sc R p)) j)) (nn j) im lm = J_195_82 K (nn (rN R)) l3 (nn p) (nn (1 + cntN (abB R (sc R p)) (rN R))) l2 (ldb R p) im lm := by
  have h6 := hG.1.2
  intro d
  induction d with
  | zero =>
    intro j n hj hn
    obtain ⟨m, rfl⟩ : ∃ m, n = m + 1 := ⟨n - 1, by omega⟩
    have : j = rN R := by omega
    subst this
    unfold F_195_28
    rw [if_pos (Int32.le_refl _)]
    have e : (if nn (1 + cntN (abB R (sc R p)) (rN R)) = 1 then 1 <<< (nn p &&& 31) else 0 : Int32) = ldb R p := by
      unfold ldb
      have hc := cntN_le (abB R (sc R p)) (rN R)
      by_cases g : cntN (abB R (sc R p)) (rN R) = 0
      · rw [if_pos g, g, if_pos (show nn (1 + 0) = 1 from rfl)]
      · rw [if_neg g, if_neg (by rw [show (1 : Int32) = nn 1 from rfl, nn_inj _ _ (by omega) (by omega)]; omega)]
    rw [e]
  | succ d ih =>
    intro j n hj hn
    obtain ⟨m, rfl⟩ : ∃ m, n = m + 1 := ⟨n - 1, by omega⟩
    have h0 : ¬ nn (rN R) ≤ nn j := by rw [nn_le _ _ (by omega) (by omega)]; omega
    unfold F_195_28
    rw [if_neg h0, h.1, (q_pl hG (show j < rN R by omega)).1, zBd_s, h.1, (q_pl hG hp).1, zBd_s]
    have e : (if sc R j ≤ sc R p then nn (1 + cntN (abB R (sc R p)) j) + 0 else nn (1 + cntN (abB R (sc R p)) j) + 1) = nn (1 + cntN (abB R (sc R p)) (j + 1)) := by
      show _ = nn (1 + (cntN (abB R (sc R p)) j + (if abB R (sc R p) j = true then 1 else 0)))
      have ea : abB R (sc R p) j = !decide (sc R j ≤ sc R p) := rfl
      by_cases g : sc R j ≤ sc R p
      · rw [if_pos g, ea, decide_eq_true g, if_neg (by decide)]; exact Int32.add_zero _
      · rw [if_neg g, ea, decide_eq_false g, if_pos (show (!false) = true from rfl)]; exact nn_add _ 1
    rw [e, show nn j + 1 = nn (j + 1) from nn_addr j 1]
    exact ih (j + 1) m (by omega) (by omega)
theorem j195_82 {im : zI} {lm : zJ} {R : Nat → Int32} {q : Int32} (hG : GD R) (h : QF im lm R q) (K : Int32 → Int32 → Int32 → zI → zJ → zR) (l2 : Int32) (k : Nat) (hk : k < rN R) : J_195_82 K (nn (rN R)) (nn k) (nn (pp R k)) (nn (1 + cntN (abB R (sc R (pp R k))) (rN R))) l2 (ldb R (pp R k)) im lm = K (nn (rN R)) (l2 ||| ldb R (pp R k)) (nn (k + 1)) im lm := by
  have h6 := hG.1.2
  have hE := hG.2.1.2
  obtain ⟨p1, p2, p3⟩ := pp_v hk h6
  generalize pp R k = p at p1 p2 p3 ⊢
  obtain ⟨a0, a1, a2, a3, a4, a5, a6, a7, a8⟩ := q_pl hG p1
  unfold J_195_82
  rw [if_neg (nn_neg p (by omega)), h.1, a4, zBd_s, if_pos (by rw [p2]), h.1, a3, zBd_s, if_pos rfl, h.1, a8, zBd_s, if_pos rfl, show nn k + 1 = nn (k + 1) from nn_addr k 1]
  by_cases g : k = 0
  · subst g; rw [if_pos (show nn 0 ≤ 0 from Int32.le_refl _)]
  · have hk0 : ¬ nn k ≤ 0 := nn_ge 0 k (by omega) (by omega)
    obtain ⟨q1, q2, q3⟩ := pp_v (R := R) (k := k - 1) (by omega) h6
    have e1 : nn k - 1 = nn (k - 1) := nn_subr k 1 (by show 1 ≤ k; omega) (by omega)
    have e2 : qOr R (nn (k - 1)) = nn (pp R (k - 1)) := by
      unfold qOr
      rw [if_pos (by rw [show (0 : Int32) = nn 0 from rfl, nn_le _ _ (by omega) (by omega)]; omega), tn_nn _ (by omega), q3]
    rw [if_neg hk0, e1, h.2.1, e2, zBd_s]
    generalize pp R (k - 1) = r at q1 q2 q3
    obtain ⟨b0, b1, b2, b3, b4, b5, b6, b7, b8⟩ := q_pl hG q1
    rw [h.1, b0, zBd_s, h.1, a0, zBd_s, h.1, b1, zBd_s, h.1, a1, zBd_s, h.1, a2, zBd_s, h.1, b2, zBd_s]
    have hb : bfB R r p = true := plc_cv (bf_o R) p1 rfl (by rw [p2, q2]; omega)
    unfold bfB at hb
    rw [decide_eq_true_eq] at hb
    have s1 := sub_sg (GD_sc hG r) (GD_sc hG p)
    have zr := zrt_b R (rE R) hE r
    have zp := zrt_b R (rE R) hE p
    have wr := zwr_b R (rE R) hE r
    have wp := zwr_b R (rE R) hE p
    have s2 := sub_sg (a := zrt R (rE R) r) (b := zrt R (rE R) p) (by omega) (by omega)
    have s3 := sub_sg (a := zwr R (rE R) p) (b := zwr R (rE R) r) (by omega) (by omega)
    simp only [s1.1, s1.2, s2.1, s2.2, s3.1, s3.2, nn_le r p (by omega) (by omega)]
    simp only [Int32.lt_iff_toInt_lt, ti_eq] at hb ⊢
    by_cases c1 : (sc R r).toInt < (sc R p).toInt
    · omega
    · rw [if_neg c1]
      by_cases c2 : (sc R r).toInt = (sc R p).toInt
      · rw [if_pos c2]
        by_cases c3 : (zrt R (rE R) r).toInt < (zrt R (rE R) p).toInt
        · omega
        · rw [if_neg c3]
          by_cases c4 : (zrt R (rE R) r).toInt = (zrt R (rE R) p).toInt
          · rw [if_pos c4]
            by_cases c5 : (zwr R (rE R) p).toInt < (zwr R (rE R) r).toInt
            · omega
            · rw [if_neg c5]
              by_cases c6 : (zwr R (rE R) p).toInt = (zwr R (rE R) r).toInt
              · rw [if_pos c6, if_pos (by omega)]
              · rw [if_neg c6]
          · rw [if_neg c4]
      · rw [if_neg c2]
theorem m_195_l {im : zI} {lm : zJ} {R : Nat → Int32} {q : Int32} (hG : GD R) (h : QF im lm R q) : ∀ d k n, k + d = rN R → d < n → F_195_10 n (nn (rN R)) (ldA R k) (nn k) im lm = some (1, im, lm) := by
  have h6 := hG.1.2
  intro d
  induction d with
  | zero =>
    intro k n hk hn
    obtain ⟨m, rfl⟩ : ∃ m, n = m + 1 := ⟨n - 1, by omega⟩
    have : k = rN R := by omega
    subst this
    have e1 : qOr R (nn (rN R)) = -10000005 := by
      unfold qOr
      rw [if_pos (by rw [show (0 : Int32) = nn 0 from rfl, nn_le _ _ (by omega) (by omega)]; omega), tn_nn _ (by omega), pat_no]
    have e2 : qOr R (-1) = -10000002 := by unfold qOr; exact if_neg (by decide)
    have e3 : qPl R (nn (rN R)) 0 = -10000001 := by rw [← hG.1.1]; exact (q_no hG 0).2
    unfold F_195_10
    rw [if_pos (Int32.le_refl _), (QF_c h).2.2.2.2.2.2.1, zBd_s, if_pos (ld_eq h6), h.2.1, e1, zBd_s, if_pos rfl, h.2.1, e2, zBd_s, if_pos rfl, h.1, e3, zBd_s, if_pos rfl]
  | succ d ih =>
    intro k n hk hn
    obtain ⟨m, rfl⟩ : ∃ m, n = m + 1 := ⟨n - 1, by omega⟩
    have h0 : ¬ nn (rN R) ≤ nn k := by rw [nn_le _ _ (by omega) (by omega)]; omega
    obtain ⟨p1, p2, p3⟩ := pp_v (R := R) (k := k) (by omega) h6
    have e2 : qOr R (nn k) = nn (pp R k) := by
      unfold qOr
      rw [if_pos (by rw [show (0 : Int32) = nn 0 from rfl, nn_le _ _ (by omega) (by omega)]; omega), tn_nn _ (by omega), p3]
    unfold F_195_10
    rw [if_neg h0, h.2.1, e2, zBd_s]
    refine (f195_28 hG h (F_195_10 m) (ldA R k) (nn k) (pp R k) p1 (rN R) 0 2000 (by omega) (by omega)).trans ?_
    rw [j195_82 hG h _ _ k (by omega)]
    exact ih (k + 1) m (by omega) (by omega)
theorem m_195_v {im : zI} {lm : zJ} {R : Nat → Int32} {q : Int32} (hG : GD R) (h : QF im lm R q) : m_195 im lm = some (1, im, lm) := by
  unfold m_195
  rw [(QF_c h).2.1, zBd_s, hG.1.1]
  exact m_195_l hG h (rN R) 0 2000 (by omega) (by have := hG.1.2; omega)
