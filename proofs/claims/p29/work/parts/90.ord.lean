/-! QUERIES: order and ranks *-/
def QC (D : zI → zJ → zR) (R : Nat → Int32) (r : Int32) : Prop := ∀ im lm q, NW im lm R q → D im lm = some (r, im, lm)
def allB : Nat → Bool := fun _ => true
theorem bf_e {R : Nat → Int32} {f33 f34 f35 : Nat → Int32} {p o : Nat} (hp : p < 6) (ho : o < 6) (h : ∀ q, q < 6 → f33 q = sc R q ∧ f34 q = zrt R (rE R) q ∧ f35 q = zwr R (rE R) q) : (if f33 p = f33 o then if f34 p = f34 o then if f35 p = f35 o then if nn o ≤ nn p then 0 else 1 else if f35 o ≤ f35 p then 0 else 1 else if f34 p ≤ f34 o then 0 else 1 else if f33 p ≤ f33 o then 0 else 1 : Int32) = if bfB R p o = true then 1 else 0 := by
  obtain ⟨a1, a2, a3⟩ := h p hp
  obtain ⟨b1, b2, b3⟩ := h o ho
  rw [a1, a2, a3, b1, b2, b3]
  unfold bfB
  simp only [decide_eq_true_eq]
  by_cases g1 : sc R p = sc R o
  · rw [if_pos g1]
    by_cases g2 : zrt R (rE R) p = zrt R (rE R) o
    · rw [if_pos g2]
      by_cases g3 : zwr R (rE R) p = zwr R (rE R) o
      · rw [if_pos g3]
        simp only [g1, g2, g3, Int32.lt_irrefl, true_and, false_or]
        by_cases g : p < o
        · rw [if_pos g, if_neg (by rw [nn_le _ _ (by omega) (by omega)]; omega)]
        · rw [if_neg g, if_pos (by rw [nn_le _ _ (by omega) (by omega)]; omega)]
      · rw [if_neg g3]
        simp only [g1, g2, g3, Int32.lt_irrefl, true_and, false_or, false_and, or_false]
        by_cases g : zwr R (rE R) p < zwr R (rE R) o
        · rw [if_pos g, if_neg (Int32.not_le.mpr g)]
        · rw [if_neg g, if_pos (Int32.not_lt.mp g)]
    · rw [if_neg g2]
      simp only [g1, g2, Int32.lt_irrefl, true_and, false_or, false_and, or_false]
      by_cases g : zrt R (rE R) o < zrt R (rE R) p
      · rw [if_pos g, if_neg (Int32.not_le.mpr g)]
      · rw [if_neg g, if_pos (Int32.not_lt.mp g)]
  · rw [if_neg g1]
    simp only [g1, false_and, or_false]
    by_cases g : sc R o < sc R p
    · rw [if_pos g, if_neg (Int32.not_le.mpr g)]
    · rw [if_neg g, if_pos (Int32.not_lt.mp g)]
theorem nw_sc {R : Nat → Int32} {q : Int32} {im : zI} {lm : zJ} (hn : NW im lm R q) : ∀ p, p < 6 → im 33 p = sc R p ∧ im 34 p = zrt R (rE R) p ∧ im 35 p = zwr R (rE R) p := fun p hp => ⟨(hn.2.1.2.1 p hp).1, (hn.2.1.2.1 p hp).2.1, (hn.2.1.2.1 p hp).2.2.1⟩
theorem s154 {R : Nat → Int32} {q : Int32} {im : zI} {lm : zJ} (hn : NW im lm R q) (p o : Nat) (hp : p < 6) (ho : o < 6) : m_154 (nn p) (nn o) im lm = some (if bfB R p o = true then 1 else 0, im, lm) := by
  unfold m_154
  simp (disch := omega) only [nn_mull, nn_mulr, nn_addl, nn_addr, nn_add, nn_mul, tn_nn, tn_l, inb_nn, inb_l, zCk_t, ite_self, zBd_s]
  rw [bf_e hp ho (nw_sc hn)]
theorem s155 {R : Nat → Int32} {q : Int32} (hG : GD R) {im : zI} {lm : zJ} (hn : NW im lm R q) (p : Nat) (hp : p < 6) : ∀ d k n, k + d = rN R → d < n → F_155_4 n (nn p) (nn (cntN (fun o => allB o && bfB R o p) k)) (nn k) im lm = some (nn (plc allB (bfB R) (rN R) p), im, lm) := by
  have h6 := hG.1.2
  have b2 : im 17 1 = nn (rN R) := hn.1.1.2.1.trans hG.1.1
  intro d
  induction d with
  | zero =>
    intro k n hk hn'
    obtain ⟨m, rfl⟩ : ∃ m, n = m + 1 := ⟨n - 1, by omega⟩
    have : k = rN R := by omega
    subst this
    unfold F_155_4
    rw [b2, if_pos (Int32.le_refl _)]
    rfl
  | succ d ih =>
    intro k n hk hn'
    obtain ⟨m, rfl⟩ : ∃ m, n = m + 1 := ⟨n - 1, by omega⟩
    have h0 : ¬ (nn (rN R) ≤ nn k) := nn_ge k _ (by omega) (by omega)
    have hc := cnt_st (f := fun o => allB o && bfB R o p) (k := k)
    have hb : (allB k && bfB R k p) = bfB R k p := Bool.true_and _
    simp only [hb] at hc
    unfold F_155_4
    rw [b2, if_neg h0, s154 hn k p (by omega) hp, zBd_s, hc, nn_addr]
    exact ih (k + 1) m (by omega) (by omega)
theorem s155w {R : Nat → Int32} {q : Int32} (hG : GD R) {im : zI} {lm : zJ} (hn : NW im lm R q) (p : Nat) (hp : p < 6) : m_155 (nn p) im lm = some (nn (plc allB (bfB R) (rN R) p), im, lm) :=
  s155 hG hn p hp (rN R) 0 2000 (by omega) (by have := hG.1.2; omega)
def pat (R : Nat → Int32) (i : Nat) (no : Int32) : Int32 := match atp allB (bfB R) (rN R) i with
  | some p => nn p
  | none => no
theorem cntN_all : ∀ n, cntN allB n = n := by
  intro n
  induction n with
  | zero => rfl
  | succ n ih => unfold cntN; rw [ih]; rfl
theorem pat_some {R : Nat → Int32} {i : Nat} (no : Int32) (h : i < rN R) : ∃ p, p < rN R ∧ pat R i no = nn p ∧ atp allB (bfB R) (rN R) i = some p := by
  unfold pat
  cases ha : atp allB (bfB R) (rN R) i with
  | none => have := (atp_none _ _ _ _).mp ha; rw [cntN_all] at this; omega
  | some p => exact ⟨p, ((atp_some _ _ (bf_o R) _ _ _).mp ha).1, rfl, rfl⟩
theorem pat_none {R : Nat → Int32} {i : Nat} (no : Int32) (h : rN R ≤ i) : pat R i no = no := by
  unfold pat
  rw [(atp_none _ _ _ _).mpr (by rw [cntN_all]; exact h)]
theorem plc_6 (R : Nat → Int32) (n p : Nat) : plc allB (bfB R) n p ≤ n := cntN_le _ n
theorem s162 {R : Nat → Int32} {q : Int32} (hG : GD R) {im : zI} {lm : zJ} (hn : NW im lm R q) (i : Nat) (hi : i < 2147483648) : ∀ d k n, k + d = rN R → d < n → (∀ p, p < k → ¬ plc allB (bfB R) (rN R) p = i) → F_162_2 n (nn i) (nn k) im lm = some (pat R i (-10000005), im, lm) := by
  have h6 := hG.1.2
  have b2 : im 17 1 = nn (rN R) := hn.1.1.2.1.trans hG.1.1
  intro d
  induction d with
  | zero =>
    intro k n hk hn' hno
    obtain ⟨m, rfl⟩ : ∃ m, n = m + 1 := ⟨n - 1, by omega⟩
    have : k = rN R := by omega
    subst this
    unfold F_162_2
    rw [b2, if_pos (Int32.le_refl _)]
    unfold pat
    cases ha : atp allB (bfB R) (rN R) i with
    | none => rfl
    | some p =>
      obtain ⟨g1, g2, g3⟩ := (atp_some _ _ (bf_o R) _ _ _).mp ha
      exact absurd g3 (hno p g1)
  | succ d ih =>
    intro k n hk hn' hno
    obtain ⟨m, rfl⟩ : ∃ m, n = m + 1 := ⟨n - 1, by omega⟩
    have h0 : ¬ (nn (rN R) ≤ nn k) := nn_ge k _ (by omega) (by omega)
    have hpl := plc_6 R (rN R) k
    unfold F_162_2
    rw [b2, if_neg h0, s155w hG hn k (by omega), zBd_s, nn_addr]
    by_cases g : plc allB (bfB R) (rN R) k = i
    · rw [g, if_pos rfl]
      have ha : atp allB (bfB R) (rN R) i = some k := (atp_some _ _ (bf_o R) _ _ _).mpr ⟨by omega, rfl, g⟩
      unfold pat
      rw [ha]
    · rw [if_neg (by rw [nn_inj _ _ (by omega) hi]; exact g)]
      refine ih (k + 1) m (by omega) (by omega) (fun p hp h => ?_)
      by_cases g2 : p = k
      · subst g2; exact g h
      · exact hno p (by omega) h
theorem s162w {R : Nat → Int32} {q : Int32} (hG : GD R) {im : zI} {lm : zJ} (hn : NW im lm R q) (i : Nat) (hi : i < 2147483648) : m_162 (nn i) im lm = some (pat R i (-10000005), im, lm) :=
  s162 hG hn i hi (rN R) 0 2000 (by omega) (by have := hG.1.2; omega) (fun p hp => absurd hp (Nat.not_lt_zero p))
/-! the model -/
def MSc (im : zI) (R : Nat → Int32) : Prop := im 171 = R ∧ ∀ q, q < 6 → im 175 q = sc R q ∧ im 179 q = zrt R (rE R) q ∧ im 180 q = zwr R (rE R) q
/-! ranks -/
def abB (R : Nat → Int32) (x : Int32) (o : Nat) : Bool := !decide (sc R o ≤ x)
theorem s153 {R : Nat → Int32} {q : Int32} (hG : GD R) {im : zI} {lm : zJ} (hn : NW im lm R q) (x : Int32) : ∀ d k n, k + d = rN R → d < n → F_153_4 n x (nn (cntN (abB R x) k)) (nn k) im lm = some (nn (cntN (abB R x) (rN R)), im, lm) := by
  have h6 := hG.1.2
  have b2 : im 17 1 = nn (rN R) := hn.1.1.2.1.trans hG.1.1
  intro d
  induction d with
  | zero =>
    intro k n hk hn'
    obtain ⟨m, rfl⟩ : ∃ m, n = m + 1 := ⟨n - 1, by omega⟩
    have : k = rN R := by omega
    subst this
    unfold F_153_4
    rw [b2, if_pos (Int32.le_refl _)]
  | succ d ih =>
    intro k n hk hn'
    obtain ⟨m, rfl⟩ : ∃ m, n = m + 1 := ⟨n - 1, by omega⟩
    have h0 : ¬ (nn (rN R) ≤ nn k) := nn_ge k _ (by omega) (by omega)
    unfold F_153_4
    rw [b2, if_neg h0]
    simp (disch := omega) only [nn_mull, nn_mulr, nn_addl, nn_addr, nn_add, nn_mul, tn_nn, tn_l, inb_nn, inb_l, zCk_t, ite_self, zBd_s]
    rw [(nw_sc hn k (by omega)).1, ← ih (k + 1) m (by omega) (by omega)]
    congr 1
    show _ = nn (cntN (abB R x) k + (if abB R x k = true then 1 else 0))
    unfold abB
    by_cases g : sc R k ≤ x
    · rw [if_pos g, if_neg (by simp [g])]; rfl
    · rw [if_neg g, if_pos (by simp [g])]
theorem s153w {R : Nat → Int32} {q : Int32} (hG : GD R) {im : zI} {lm : zJ} (hn : NW im lm R q) (x : Int32) : m_153 x im lm = some (nn (cntN (abB R x) (rN R)), im, lm) := s153 hG hn x (rN R) 0 2000 (by omega) (by have := hG.1.2; omega)
theorem MSc_of {R : Nat → Int32} {im : zI} (h : im 171 = R) (h2 : ∀ q, q < 6 → im 175 q = sc R q ∧ im 179 q = zrt R (rE R) q ∧ im 180 q = zwr R (rE R) q ∧ im 181 q = zco R (rE R) q) : MSc im R := ⟨h, fun q hq => ⟨(h2 q hq).1, (h2 q hq).2.1, (h2 q hq).2.2.1⟩⟩
