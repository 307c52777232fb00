/-! THE QUEUE *-/
theorem isq_v {R : Nat → Int32} (hG : GD R) (p : Nat) : isqB R p = true ↔ (¬ cnt R p = -1 ∧ bt (R 14) p = false) := by
  unfold isqB
  rcases cnt_v hG p with h | ⟨x, hx, h⟩
  · rw [h]; simp [show ((-1 : Int32) < 0) from by decide]
  · have h1 : ¬ nn x < 0 := nn_neg x (by omega)
    have h2 : ¬ nn x = -1 := fun g => by
      rw [ti_eq, ti_nn _ (by omega)] at g
      have : (-1 : Int32).toInt = -1 := by decide +kernel
      omega
    rw [h, decide_eq_false h1]
    simp [h2]
theorem s56 {R : Nat → Int32} {q : Int32} (hG : GD R) {im : zI} {lm : zJ} (hn : NW im lm R q) (h1 : R 0 = 1) (p : Nat) (hp : p < 6) : m_56 (nn p) im lm = some (if isqB R p = true then 1 else 0, im, lm) := by
  have b1 := hn.1.1.1
  obtain ⟨d1, d2, d3, d4⟩ := hn.1.2.2.2.2.2.1 h1
  have d4p : im 20 p = orN (cnt R p) := (d4 p hp).1
  have d3 : im 19 4 = R 14 := d3
  unfold m_56
  rw [b1, h1]
  simp (disch := omega) only [nn_mull, nn_mulr, nn_addl, nn_addr, nn_add, nn_mul, tn_nn, tn_l, inb_nn, inb_l, zCk_t, ite_self, zBd_s, if_true, d4p, d3]
  rw [b_get _ _ (by omega)]
  simp only [zb_0]
  have hq := isq_v hG p
  rcases cnt_v hG p with h | ⟨x, hx, h⟩
  · rw [h, orN_m, if_pos rfl]
    have : ¬ isqB R p = true := by rw [hq]; exact fun g => g.1 h
    rw [if_neg this]
  · have h2 : ¬ cnt R p = -1 := fun g => by
      rw [h, ti_eq, ti_nn _ (by omega)] at g
      have : (-1 : Int32).toInt = -1 := by decide +kernel
      omega
    rw [h, orN_n _ (by omega), if_neg (nn_nn x (by omega))]
    cases hb : bt (R 14) p
    · have : isqB R p = true := hq.mpr ⟨h2, hb⟩
      rw [if_pos this]; rfl
    · have : ¬ isqB R p = true := by rw [hq]; exact fun g => by rw [hb] at g; exact absurd g.2 (by decide)
      rw [if_neg this]; rfl
theorem s56_0 {R : Nat → Int32} {q : Int32} {im : zI} {lm : zJ} (hn : NW im lm R q) (h1 : ¬ R 0 = 1) (x : Int32) : m_56 x im lm = some (0, im, lm) := by
  have b1 := hn.1.1.1
  unfold m_56
  rw [b1, if_neg h1, if_neg h1, zCk_t]
theorem cnt_st {f : Nat → Bool} {k : Nat} : (if (if f k = true then (1 : Int32) else 0) = 0 then nn (cntN f k) else nn (cntN f k) + 1) = nn (cntN f (k + 1)) := by
  show _ = nn (cntN f k + (if f k = true then 1 else 0))
  cases f k
  · rfl
  · exact nn_add _ 1
theorem s57 {R : Nat → Int32} {q : Int32} (hG : GD R) {im : zI} {lm : zJ} (hn : NW im lm R q) (h1 : R 0 = 1) : ∀ d k n, k + d = rN R → d < n → F_57_4 n (nn (cntN (isqB R) k)) (nn k) im lm = some (nn (cntN (isqB R) (rN R)), im, lm) := by
  have h6 := hG.1.2
  have b2 : im 17 1 = nn (rN R) := hn.1.1.2.1.trans hG.1.1
  intro d
  induction d with
  | zero =>
    intro k n hk hn'
    obtain ⟨m, rfl⟩ : ∃ m, n = m + 1 := ⟨n - 1, by omega⟩
    have : k = rN R := by omega
    subst this
    unfold F_57_4
    rw [b2, if_pos (Int32.le_refl _)]
  | succ d ih =>
    intro k n hk hn'
    obtain ⟨m, rfl⟩ : ∃ m, n = m + 1 := ⟨n - 1, by omega⟩
    have h0 : ¬ (nn (rN R) ≤ nn k) := nn_ge k _ (by omega) (by omega)
    unfold F_57_4
    rw [b2, if_neg h0, s56 hG hn h1 k (by omega), zBd_s, cnt_st, nn_addr]
    exact ih (k + 1) m (by omega) (by omega)
theorem s67 {R : Nat → Int32} {q : Int32} (hG : GD R) {im : zI} {lm : zJ} (hn : NW im lm R q) (h1 : R 0 = 1) (p o : Nat) (hp : p < 6) (ho : o < 6) (hqp : isqB R p = true) (hqo : isqB R o = true) : m_67 (nn p) (nn o) im lm = some (if qaB R p o = true then 1 else 0, im, lm) := by
  obtain ⟨d1, d2, d3, d4⟩ := hn.1.2.2.2.2.2.1 h1
  have hv : ∀ p, p < 6 → isqB R p = true → im 20 p = cnt R p := fun p hp h => by
    have d4p : im 20 p = orN (cnt R p) := (d4 p hp).1
    rcases cnt_v hG p with g | ⟨x, hx, g⟩
    · exact absurd g ((isq_v hG p).mp h).1
    · rw [d4p, g, orN_n _ (by omega)]
  have s1 : im 33 p = sc R p := (hn.2.1.2.1 p hp).1
  have s2 : im 33 o = sc R o := (hn.2.1.2.1 o ho).1
  unfold m_67
  simp (disch := omega) only [nn_mull, nn_mulr, nn_addl, nn_addr, nn_add, nn_mul, tn_nn, tn_l, inb_nn, inb_l, zCk_t, ite_self, zBd_s, hv p hp hqp, hv o ho hqo, s1, s2]
  congr 2
  unfold qaB
  by_cases g1 : cnt R p = cnt R o
  · rw [if_pos g1]
    by_cases g2 : sc R p = sc R o
    · rw [if_pos g2]
      simp only [g1, g2, Int32.lt_irrefl, true_and, false_or, decide_eq_true_eq]
      by_cases g3 : p < o
      · rw [if_pos g3, if_neg (by rw [nn_le _ _ (by omega) (by omega)]; omega)]
      · rw [if_neg g3, if_pos (by rw [nn_le _ _ (by omega) (by omega)]; omega)]
    · rw [if_neg g2]
      simp only [g1, Int32.lt_irrefl, true_and, false_or, g2, false_and, or_false, decide_eq_true_eq]
      by_cases g3 : sc R p < sc R o
      · rw [if_pos g3, if_neg (Int32.not_le.mpr g3)]
      · rw [if_neg g3, if_pos (Int32.not_lt.mp g3)]
  · rw [if_neg g1]
    simp only [g1, false_and, or_false, decide_eq_true_eq]
    by_cases g3 : cnt R p < cnt R o
    · rw [if_pos g3, if_neg (Int32.not_le.mpr g3)]
    · rw [if_neg g3, if_pos (Int32.not_lt.mp g3)]
theorem s68 {R : Nat → Int32} {q : Int32} (hG : GD R) {im : zI} {lm : zJ} (hn : NW im lm R q) (h1 : R 0 = 1) (p : Nat) (hp : p < 6) (hqp : isqB R p = true) : ∀ d k n, k + d = rN R → d < n → F_68_4 n (nn p) (nn (cntN (fun o => isqB R o && qaB R o p) k)) (nn k) im lm = some (nn (plc (isqB R) (qaB R) (rN R) p), im, lm) := by
  have h6 := hG.1.2
  have b2 : im 17 1 = nn (rN R) := hn.1.1.2.1.trans hG.1.1
  intro d
  induction d with
  | zero =>
    intro k n hk hn'
    obtain ⟨m, rfl⟩ : ∃ m, n = m + 1 := ⟨n - 1, by omega⟩
    have : k = rN R := by omega
    subst this
    unfold F_68_4
    rw [b2, if_pos (Int32.le_refl _)]
    rfl
  | succ d ih =>
    intro k n hk hn'
    obtain ⟨m, rfl⟩ : ∃ m, n = m + 1 := ⟨n - 1, by omega⟩
    have h0 : ¬ (nn (rN R) ≤ nn k) := nn_ge k _ (by omega) (by omega)
    have ih := ih (k + 1) m (by omega) (by omega)
    unfold F_68_4
    rw [b2, if_neg h0, s56 hG hn h1 k (by omega), zBd_s, nn_addr]
    have e : cntN (fun o => isqB R o && qaB R o p) (k + 1) = cntN (fun o => isqB R o && qaB R o p) k + (if (isqB R k && qaB R k p) = true then 1 else 0) := rfl
    rw [e] at ih
    cases hk : isqB R k
    · rw [if_neg (show ¬ (false = true) by decide), if_pos rfl]
      rw [hk, Bool.false_and, if_neg (by decide)] at ih
      exact ih
    · rw [if_pos rfl, if_neg (by decide), s67 hG hn h1 k p (by omega) hp hk hqp, zBd_s]
      rw [hk, Bool.true_and] at ih
      cases hq : qaB R k p
      · rw [hq, if_neg (by decide)] at ih
        exact ih
      · rw [hq, if_pos rfl] at ih
        rw [if_pos rfl, if_neg (by decide), nn_addr]
        exact ih
/-- the player at place i of the queue -/
def qat (R : Nat → Int32) (i : Nat) : Int32 := match atp (isqB R) (qaB R) (rN R) i with
  | some p => nn p
  | none => -10000005
theorem s69 {R : Nat → Int32} {q : Int32} (hG : GD R) {im : zI} {lm : zJ} (hn : NW im lm R q) (h1 : R 0 = 1) (i : Nat) (hi : i < 2147483648) : ∀ d k n, k + d = rN R → d < n → (∀ p, p < k → ¬ (isqB R p = true ∧ plc (isqB R) (qaB R) (rN R) p = i)) → F_69_2 n (nn i) (nn k) im lm = some (qat R i, im, lm) := by
  have h6 := hG.1.2
  have b2 : im 17 1 = nn (rN R) := hn.1.1.2.1.trans hG.1.1
  intro d
  induction d with
  | zero =>
    intro k n hk hn' hno
    obtain ⟨m, rfl⟩ : ∃ m, n = m + 1 := ⟨n - 1, by omega⟩
    have : k = rN R := by omega
    subst this
    unfold F_69_2
    rw [b2, if_pos (Int32.le_refl _)]
    unfold qat
    cases ha : atp (isqB R) (qaB R) (rN R) i with
    | none => rfl
    | some p =>
      obtain ⟨g1, g2, g3⟩ := (atp_some _ _ (qa_o R) _ _ _).mp ha
      exact absurd ⟨g2, g3⟩ (hno p g1)
  | succ d ih =>
    intro k n hk hn' hno
    obtain ⟨m, rfl⟩ : ∃ m, n = m + 1 := ⟨n - 1, by omega⟩
    have h0 : ¬ (nn (rN R) ≤ nn k) := nn_ge k _ (by omega) (by omega)
    unfold F_69_2
    rw [b2, if_neg h0, s56 hG hn h1 k (by omega), zBd_s, nn_addr]
    cases hk2 : isqB R k
    · rw [if_neg (show ¬ (false = true) by decide), if_pos rfl]
      refine ih (k + 1) m (by omega) (by omega) (fun p hp h => ?_)
      by_cases g : p = k
      · subst g; rw [hk2] at h; exact absurd h.1 (by decide)
      · exact hno p (by omega) h
    · rw [if_pos rfl, if_neg (by decide)]
      have h68 := s68 hG hn h1 k (by omega) hk2 (rN R) 0 2000 (by omega) (by omega)
      have hpl := plc_lt (isqB R) (qaB R) (qa_o R) (rN R) k (by omega) hk2
      have hcl := cntN_le (isqB R) (rN R)
      rw [show m_68 (nn k) im lm = _ from h68, zBd_s]
      by_cases g : plc (isqB R) (qaB R) (rN R) k = i
      · rw [g, if_pos rfl]
        have ha : atp (isqB R) (qaB R) (rN R) i = some k := (atp_some _ _ (qa_o R) _ _ _).mpr ⟨by omega, hk2, g⟩
        unfold qat
        rw [ha]
      · rw [if_neg (by rw [nn_inj _ _ (by omega) hi]; exact g)]
        refine ih (k + 1) m (by omega) (by omega) (fun p hp h => ?_)
        by_cases g2 : p = k
        · subst g2; exact g h.2
        · exact hno p (by omega) h
theorem s69_0 {R : Nat → Int32} {q : Int32} (hG : GD R) {im : zI} {lm : zJ} (hn : NW im lm R q) (h1 : ¬ R 0 = 1) (x : Int32) : ∀ d k n, k + d = rN R → d < n → F_69_2 n x (nn k) im lm = some (-10000005, im, lm) := by
  have h6 := hG.1.2
  have b2 : im 17 1 = nn (rN R) := hn.1.1.2.1.trans hG.1.1
  intro d
  induction d with
  | zero =>
    intro k n hk hn'
    obtain ⟨m, rfl⟩ : ∃ m, n = m + 1 := ⟨n - 1, by omega⟩
    have : k = rN R := by omega
    subst this
    unfold F_69_2
    rw [b2, if_pos (Int32.le_refl _)]
  | succ d ih =>
    intro k n hk hn'
    obtain ⟨m, rfl⟩ : ∃ m, n = m + 1 := ⟨n - 1, by omega⟩
    have h0 : ¬ (nn (rN R) ≤ nn k) := nn_ge k _ (by omega) (by omega)
    unfold F_69_2
    rw [b2, if_neg h0, s56_0 hn h1, zBd_s, if_pos rfl, nn_addr]
    exact ih (k + 1) m (by omega) (by omega)
/-! the model's queue -/
def Hd (im : zI) (l : List Nat) : Prop := ∀ i x, l[i]? = some x → im 182 i = nn x
theorem srt_6 {R : Nat → Int32} {n : Nat} (h : n ≤ 6) : (∀ x ∈ srtL (isqB R) (qaB R) n, x < 6) ∧ (srtL (isqB R) (qaB R) n).length ≤ n := by
  refine ⟨fun x hx => ?_, ?_⟩
  · have := ((srt_mem _ _ _ _).mp hx).1; omega
  · rw [srt_len]; exact cntN_le _ _