/-! THE FINAL ROUND: who answers next *-/
theorem plc_mono {sel : Nat → Bool} {lt : Nat → Nat → Bool} (hl : StO lt) {n x y : Nat} (hx : x < n) (hs : sel x = true) (hy : y < n) (ht : sel y = true) (h : lt x y = true) : plc sel lt n x < plc sel lt n y := by
  obtain ⟨h1, h2⟩ := srt_get sel lt hl n x hx hs
  obtain ⟨h3, h4⟩ := srt_get sel lt hl n y hy ht
  rcases Nat.lt_trichotomy (plc sel lt n x) (plc sel lt n y) with g | g | g
  · exact g
  · have := plc_inj sel lt hl n x y hx hs hy ht g
    subst this
    rw [hl.1] at h; cases h
  · have h5 := (List.pairwise_iff_getElem.mp (srt_pw sel lt hl n)) _ _ h3 h1 g
    rw [h2, h4] at h5
    have := hl.2.1 _ _ _ h h5
    rw [hl.1] at this; cases this
/-- the answered ones are the first a of those who take part -/
def F5a (R : Nat → Int32) (a : Nat) : Prop := ∀ p, p < 6 → bt (R 13) p = true → (bt (R 14) p = true ↔ plc (ptB R) (flB R) 6 p < a)
def nxt (R : Nat → Int32) (a : Nat) (no : Int32) : Int32 := match atp (ptB R) (flB R) 6 a with
  | some p => nn p
  | none => no
theorem nxt_some {R : Nat → Int32} {a : Nat} (no : Int32) (h : a < cntN (ptB R) 6) : ∃ p, p < 6 ∧ ptB R p = true ∧ plc (ptB R) (flB R) 6 p = a ∧ nxt R a no = nn p := by
  unfold nxt
  cases ha : atp (ptB R) (flB R) 6 a with
  | none => have := (atp_none _ _ _ _).mp ha; omega
  | some p =>
    obtain ⟨h1, h2, h3⟩ := (atp_some _ _ (fl_o R) _ _ _).mp ha
    exact ⟨p, h1, h2, h3, rfl⟩
theorem nxt_none {R : Nat → Int32} {a : Nat} (no : Int32) (h : cntN (ptB R) 6 ≤ a) : nxt R a no = no := by
  unfold nxt
  rw [(atp_none _ _ _ _).mpr h]
def unB (R : Nat → Int32) (p : Nat) : Bool := bt (R 13) p && !(bt (R 14) p)
/-! the class -/
def St24 (R : Nat → Int32) (im : zI) : Prop := (∀ p, p < 6 → im 24 p = if bt (R 13) p = true then R (16 + p) else 0) ∧ ∀ p, p < 6 → bt (R 13) p = true → 0 < R (16 + p)
theorem st_le {R : Nat → Int32} {im : zI} (h : St24 R im) {p : Nat} (hp : p < 6) : (im 24 p ≤ 0) = (bt (R 13) p = false) := by
  rw [h.1 p hp]
  apply propext
  cases hb : bt (R 13) p
  · rw [if_neg (by decide)]; exact ⟨fun _ => rfl, fun _ => Int32.le_refl _⟩
  · rw [if_pos rfl]; exact ⟨fun g => absurd g (Int32.not_le.mpr (h.2 p hp hb)), fun g => by cases g⟩
theorem s80 {R : Nat → Int32} {im : zI} {lm : zJ} (h : St24 R im) (p o : Nat) (hp : p < 6) (ho : o < 6) (hbp : bt (R 13) p = true) (hbo : bt (R 13) o = true) : m_80 (nn p) (nn o) im lm = some (if flB R p o = true then 1 else 0, im, lm) := by
  have e1 := h.1 p hp
  have e2 := h.1 o ho
  rw [hbp, if_pos rfl] at e1
  rw [hbo, if_pos rfl] at e2
  unfold m_80
  simp (disch := omega) only [nn_mull, nn_mulr, nn_addl, nn_addr, nn_add, nn_mul, tn_nn, tn_l, inb_nn, inb_l, zCk_t, ite_self, zBd_s, e1, e2]
  congr 2
  unfold flB
  by_cases g1 : R (16 + p) = R (16 + o)
  · rw [if_pos g1]
    simp only [g1, Int32.lt_irrefl, true_and, false_or, decide_eq_true_eq]
    by_cases g3 : p < o
    · rw [if_pos g3, if_neg (by rw [nn_le _ _ (by omega) (by omega)]; omega)]
    · rw [if_neg g3, if_pos (by rw [nn_le _ _ (by omega) (by omega)]; omega)]
  · rw [if_neg g1]
    simp only [g1, false_and, or_false, decide_eq_true_eq]
    by_cases g3 : R (16 + p) < R (16 + o)
    · rw [if_pos g3, if_neg (Int32.not_le.mpr g3)]
    · rw [if_neg g3, if_pos (Int32.not_lt.mp g3)]
theorem s81 {R : Nat → Int32} {im : zI} {lm : zJ} (h : St24 R im) (p : Nat) (hp : p < 6) (hbp : bt (R 13) p = true) : ∀ d k n, k + d = 6 → d < n → F_81_4 n (nn p) (nn (cntN (fun o => ptB R o && flB R o p) k)) (nn k) im lm = some (nn (plc (ptB R) (flB R) 6 p), im, lm) := by
  intro d
  induction d with
  | zero =>
    intro k n hk hn'
    obtain ⟨m, rfl⟩ : ∃ m, n = m + 1 := ⟨n - 1, by omega⟩
    have : k = 6 := by omega
    subst this
    unfold F_81_4
    rw [if_pos (show (6 : Int32) ≤ nn 6 from Int32.le_refl _)]
    rfl
  | succ d ih =>
    intro k n hk hn'
    obtain ⟨m, rfl⟩ : ∃ m, n = m + 1 := ⟨n - 1, by omega⟩
    have h0 : ¬ ((6 : Int32) ≤ nn k) := nn_ge k 6 (by omega) (by omega)
    have ih := ih (k + 1) m (by omega) (by omega)
    have e : cntN (fun o => ptB R o && flB R o p) (k + 1) = cntN (fun o => ptB R o && flB R o p) k + (if (ptB R k && flB R k p) = true then 1 else 0) := rfl
    rw [e] at ih
    unfold F_81_4
    rw [if_neg h0]
    simp (disch := omega) only [nn_mull, nn_mulr, nn_addl, nn_addr, nn_add, nn_mul, tn_nn, tn_l, inb_nn, inb_l, zCk_t, ite_self, zBd_s, st_le h]
    cases hb : bt (R 13) k
    · rw [if_pos rfl]
      rw [show ptB R k = false from hb, Bool.false_and, if_neg (by decide)] at ih
      exact ih
    · rw [if_neg (by decide), s80 h k p (by omega) hp hb hbp, zBd_s]
      rw [show ptB R k = true from hb, Bool.true_and] at ih
      cases hq : flB R k p
      · rw [hq, if_neg (by decide)] at ih
        exact ih
      · rw [hq, if_pos rfl] at ih
        rw [if_pos rfl, if_neg (by decide)]
        exact ih
theorem s82 {R : Nat → Int32} {im : zI} {lm : zJ} (h : St24 R im) (a : Nat) (ha6 : a ≤ 6) (h23 : im 23 0 = nn a) : ∀ d k n, k + d = 6 → d < n → (∀ p, p < k → ¬ (ptB R p = true ∧ plc (ptB R) (flB R) 6 p = a)) → F_82_2 n (nn k) im lm = some (nxt R a (-10000005), im, lm) := by
  intro d
  induction d with
  | zero =>
    intro k n hk hn' hno
    obtain ⟨m, rfl⟩ : ∃ m, n = m + 1 := ⟨n - 1, by omega⟩
    have : k = 6 := by omega
    subst this
    unfold F_82_2
    rw [if_pos (show (6 : Int32) ≤ nn 6 from Int32.le_refl _)]
    unfold nxt
    cases ha : atp (ptB R) (flB R) 6 a with
    | none => rfl
    | some p =>
      obtain ⟨g1, g2, g3⟩ := (atp_some _ _ (fl_o R) _ _ _).mp ha
      exact absurd ⟨g2, g3⟩ (hno p g1)
  | succ d ih =>
    intro k n hk hn' hno
    obtain ⟨m, rfl⟩ : ∃ m, n = m + 1 := ⟨n - 1, by omega⟩
    have h0 : ¬ ((6 : Int32) ≤ nn k) := nn_ge k 6 (by omega) (by omega)
    unfold F_82_2
    rw [if_neg h0]
    simp (disch := omega) only [nn_mull, nn_mulr, nn_addl, nn_addr, nn_add, nn_mul, tn_nn, tn_l, inb_nn, inb_l, zCk_t, ite_self, zBd_s, st_le h]
    cases hb : bt (R 13) k
    · rw [if_pos rfl]
      refine ih (k + 1) m (by omega) (by omega) (fun p hp h => ?_)
      by_cases g : p = k
      · subst g; rw [show ptB R p = false from hb] at h; exact absurd h.1 (by decide)
      · exact hno p (by omega) h
    · have h81 := s81 (lm := lm) h k (by omega) hb 6 0 2000 (by omega) (by omega)
      have hpl := plc_lt (ptB R) (flB R) (fl_o R) 6 k (by omega) hb
      have hcl := cntN_le (ptB R) 6
      rw [if_neg (by decide), show m_81 (nn k) im lm = _ from h81, zBd_s, h23]
      by_cases g : plc (ptB R) (flB R) 6 k = a
      · rw [g, if_pos rfl]
        have ha : atp (ptB R) (flB R) 6 a = some k := (atp_some _ _ (fl_o R) _ _ _).mpr ⟨by omega, hb, g⟩
        unfold nxt
        rw [ha]
      · rw [if_neg (by rw [nn_inj _ _ (by omega) (by omega)]; exact g)]
        refine ih (k + 1) m (by omega) (by omega) (fun p hp h => ?_)
        by_cases g2 : p = k
        · subst g2; exact g h.2
        · exact hno p (by omega) h
theorem s83w {R : Nat → Int32} {im : zI} {lm : zJ} (h : St24 R im) : m_83 im lm = some (nn (cntN (ptB R) 6), im, lm) := by
  have h1 := s83 im lm 6 0 2000 rfl (by omega)
  have e : cntN (fun p => !decide (im 24 p ≤ 0)) 6 = cntN (ptB R) 6 := cntN_c 6 (fun p hp => by
    unfold ptB
    simp only [st_le h hp]
    cases bt (R 13) p <;> rfl)
  rw [e] at h1
  exact h1
