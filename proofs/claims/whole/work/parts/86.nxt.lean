/-! THE FINAL ROUND: who answers next *-/
theorem plc_mono {sel : Nat → Bool} {lt : Nat → Nat → Bool} (hl : StO lt) {n x y : Nat} (hx : x < n) (hs : sel x = true) (hy : y < n) (ht : sel y = true) (h : lt x y = true) : plc sel lt n x < plc sel lt n y := by
  obtain ⟨h1, h2⟩ := srt_get sel lt hl n x hx hs
  obtain ⟨h3, h4⟩ := srt_get sel lt hl n y hy ht
  rcases Nat.lt_trichotomy (plc sel lt n x) (plc sel lt n y) with g | g | g
  · exact g
  · have := plc_inj sel lt hl n x y hx hs hy ht g
    subst this
    rw [hl.1] at h; cases h
  · have h5 := (List.pairwise_iff_getElem.mp (srt_pw sel lt hl n)) _ _ h3 h1 g
    rw [h2, h4] at h5
    have := hl.2.1 _ _ _ h h5
    rw [hl.1] at this; cases this
/-- the answered ones are the first a of those who take part -/
def F5a (R : Nat → Int32) (a : Nat) : Prop := ∀ p, p < 6 → bt (R 13) p = true → (bt (R 14) p = true ↔ plc (ptB R) (flB R) 6 p < a)
def nxt (R : Nat → Int32) (a : Nat) (no : Int32) : Int32 := match atp (ptB R) (flB R) 6 a with
  | some p => nn p
  | none => no
theorem nxt_some {R : Nat → Int32} {a : Nat} (no : Int32) (h : a < cntN (ptB R) 6) : ∃ p, p < 6 ∧ ptB R p = true ∧ plc (ptB R) (flB R) 6 p = a ∧ nxt R a no = nn p := by
  unfold nxt
  cases ha : atp (ptB R) (flB R) 6 a with
  | none => have := (atp_none _ _ _ _).mp ha; omega
  | some p =>
    obtain ⟨h1, h2, h3⟩ := (atp_some _ _ (fl_o R) _ _ _).mp ha
    exact ⟨p, h1, h2, h3, rfl⟩
theorem nxt_none {R : Nat → Int32} {a : Nat} (no : Int32) (h : cntN (ptB R) 6 ≤ a) : nxt R a no = no := by
  unfold nxt
  rw [(atp_none _ _ _ _).mpr h]
def unB (R : Nat → Int32) (p : Nat) : Bool := bt (R 13) p && !(bt (R 14) p)
theorem s88 {R : Nat → Int32} (hN : R 1 = nn (rN R)) (h6 : rN R ≤ 6) (im : zI) (lm : zJ) (hR : im 171 = R) : ∀ d k n b, k + d = rN R → d < n → ((b = -1 ∧ ∀ p, p < k → unB R p = false) ∨ ∃ m, m < k ∧ b = nn m ∧ unB R m = true ∧ ∀ p, p < k → unB R p = true → p ≠ m → flB R m p = true) → ∃ b', F_88_4 n b (nn k) im lm = some (b', im, lm) ∧ ((b' = -1 ∧ ∀ p, p < rN R → unB R p = false) ∨ ∃ m, m < rN R ∧ b' = nn m ∧ unB R m = true ∧ ∀ p, p < rN R → unB R p = true → p ≠ m → flB R m p = true) := by
  intro d
  induction d with
  | zero =>
    intro k n b hk hn hb
    obtain ⟨m, rfl⟩ : ∃ m, n = m + 1 := ⟨n - 1, by omega⟩
    have : k = rN R := by omega
    subst this
    refine ⟨b, ?_, hb⟩
    unfold F_88_4
    rw [hR, hN, if_pos (Int32.le_refl _)]
  | succ d ih =>
    intro k n b hk hn hb
    obtain ⟨m, rfl⟩ : ∃ m, n = m + 1 := ⟨n - 1, by omega⟩
    have h0 : ¬ (nn (rN R) ≤ nn k) := nn_ge k _ (by omega) (by omega)
    have hs : (if ((R 13 >>> (nn k &&& 31)) &&& 1) = 1 then if ((R 14 >>> (nn k &&& 31)) &&& 1) = 0 then (1 : Int32) else 0 else 0) = if unB R k = true then 1 else 0 := by
      rw [b_get _ _ (by omega), b_get _ _ (by omega)]
      simp only [zb_1, zb_0]
      unfold unB
      cases bt (R 13) k <;> cases bt (R 14) k <;> rfl
    unfold F_88_4 J_88_48
    rw [hR, hN, if_neg h0, hs]
    cases hu : unB R k
    · simp (disch := omega) only [nn_mull, nn_mulr, nn_addl, nn_addr, nn_add, nn_mul, tn_nn, tn_l, inb_nn, inb_l, zCk_t, ite_self, zBd_s, Bool.false_eq_true, if_false, if_true]
      refine ih (k + 1) m b (by omega) (by omega) ?_
      rcases hb with ⟨h1, h2⟩ | ⟨m', h1, h2, h3, h4⟩
      · refine Or.inl ⟨h1, fun p hp => ?_⟩
        by_cases g : p = k
        · rw [g]; exact hu
        · exact h2 p (by omega)
      · refine Or.inr ⟨m', by omega, h2, h3, fun p hp h5 h6 => ?_⟩
        by_cases g : p = k
        · rw [g] at h5; rw [hu] at h5; cases h5
        · exact h4 p (by omega) h5 h6
    · simp only [if_true, show ((1 : Int32) = 0) = False from by decide, if_false]
      rcases hb with ⟨h1, h2⟩ | ⟨m', h1, h2, h3, h4⟩
      · subst h1
        simp (disch := omega) only [nn_mull, nn_mulr, nn_addl, nn_addr, nn_add, nn_mul, tn_nn, tn_l, inb_nn, inb_l, zCk_t, ite_self, zBd_s, show ((-1 : Int32) < 0) = True from by decide, if_true]
        refine ih (k + 1) m (nn k) (by omega) (by omega) (Or.inr ⟨k, by omega, rfl, hu, fun p hp h5 h6 => ?_⟩)
        rw [h2 p (by omega)] at h5; cases h5
      · subst h2
        simp (disch := omega) only [nn_mull, nn_mulr, nn_addl, nn_addr, nn_add, nn_mul, tn_nn, tn_l, inb_nn, inb_l, zCk_t, ite_self, zBd_s, nn_neg m' (by omega), if_false]
        by_cases g : R (16 + m') ≤ R (16 + k)
        · rw [if_pos g]
          refine ih (k + 1) m (nn m') (by omega) (by omega) (Or.inr ⟨m', by omega, rfl, h3, fun p hp h5 h6 => ?_⟩)
          by_cases g2 : p = k
          · subst g2
            unfold flB
            rw [decide_eq_true_eq]
            rw [Int32.le_iff_toInt_le] at g
            rw [Int32.lt_iff_toInt_lt, ti_eq]
            omega
          · exact h4 p (by omega) h5 h6
        · rw [if_neg g]
          refine ih (k + 1) m (nn k) (by omega) (by omega) (Or.inr ⟨k, by omega, rfl, hu, fun p hp h5 h6 => ?_⟩)
          have hkm : flB R k m' = true := by
            unfold flB
            rw [decide_eq_true_eq]
            exact Or.inl (Int32.not_le.mp g)
          by_cases g2 : p = m'
          · rw [g2]; exact hkm
          · exact (fl_o R).2.1 _ _ _ hkm (h4 p (by omega) h5 g2)
theorem s88w {R : Nat → Int32} (hN : R 1 = nn (rN R)) (h6 : rN R ≤ 6) (hpt : ∀ i, rN R ≤ i → bt (R 13) i = false) {a : Nat} (hF : F5a R a) (im : zI) (lm : zJ) (hR : im 171 = R) : m_88 im lm = some (nxt R a (-1), im, lm) := by
  obtain ⟨b', h1, h2⟩ := s88 hN h6 im lm hR (rN R) 0 2000 (-1) (by omega) (by omega) (Or.inl ⟨rfl, fun p hp => absurd hp (Nat.not_lt_zero p)⟩)
  unfold m_88
  refine Eq.trans h1 ?_
  congr 2
  have hlt : ∀ p, bt (R 13) p = true → p < rN R := fun p hp => by
    rcases Nat.lt_or_ge p (rN R) with g | g
    · exact g
    · rw [hpt p g] at hp; cases hp
  rcases Nat.lt_or_ge a (cntN (ptB R) 6) with ha | ha
  · obtain ⟨p, p1, p2, p3, p4⟩ := nxt_some (-1) ha
    rw [p4]
    have hpN := hlt p p2
    have hup : unB R p = true := by
      unfold unB
      have hp2 : bt (R 13) p = true := p2
      rw [hp2, Bool.true_and]
      cases hb : bt (R 14) p
      · rfl
      · have := (hF p p1 p2).mp hb; omega
    rcases h2 with ⟨_, h3⟩ | ⟨m, h3, h4, h5, h6'⟩
    · rw [h3 p hpN] at hup; cases hup
    · by_cases g : p = m
      · rw [h4, g]
      · have h7 := h6' p hpN hup g
        unfold unB at h5
        simp only [Bool.and_eq_true, Bool.not_eq_true'] at h5
        have h8 := plc_mono (fl_o R) (by omega : m < 6) (show ptB R m = true from h5.1) p1 p2 h7
        have h9 : ¬ plc (ptB R) (flB R) 6 m < a := fun h => by
          have := (hF m (by omega) h5.1).mpr h
          rw [h5.2] at this; cases this
        omega
  · rw [nxt_none (-1) ha]
    rcases h2 with ⟨h3, _⟩ | ⟨m, h3, h4, h5, _⟩
    · exact h3
    · exfalso
      unfold unB at h5
      simp only [Bool.and_eq_true, Bool.not_eq_true'] at h5
      have := plc_lt (ptB R) (flB R) (fl_o R) 6 m (by omega) (show ptB R m = true from h5.1)
      have h8 := (hF m (by omega) h5.1).mpr (by omega)
      rw [h5.2] at h8; cases h8
/-! the class -/
def St24 (R : Nat → Int32) (im : zI) : Prop := (∀ p, p < 6 → im 24 p = if bt (R 13) p = true then R (16 + p) else 0) ∧ ∀ p, p < 6 → bt (R 13) p = true → 0 < R (16 + p)
theorem st_le {R : Nat → Int32} {im : zI} (h : St24 R im) {p : Nat} (hp : p < 6) : (im 24 p ≤ 0) = (bt (R 13) p = false) := by
  rw [h.1 p hp]
  apply propext
  cases hb : bt (R 13) p
  · rw [if_neg (by decide)]; exact ⟨fun _ => rfl, fun _ => Int32.le_refl _⟩
  · rw [if_pos rfl]; exact ⟨fun g => absurd g (Int32.not_le.mpr (h.2 p hp hb)), fun g => by cases g⟩
theorem s80 {R : Nat → Int32} {im : zI} {lm : zJ} (h : St24 R im) (p o : Nat) (hp : p < 6) (ho : o < 6) (hbp : bt (R 13) p = true) (hbo : bt (R 13) o = true) : m_80 (nn p) (nn o) im lm = some (if flB R p o = true then 1 else 0, im, lm) := by
  have e1 := h.1 p hp
  have e2 := h.1 o ho
  rw [hbp, if_pos rfl] at e1
  rw [hbo, if_pos rfl] at e2
  unfold m_80
  simp (disch := omega) only [nn_mull, nn_mulr, nn_addl, nn_addr, nn_add, nn_mul, tn_nn, tn_l, inb_nn, inb_l, zCk_t, ite_self, zBd_s, e1, e2]
  congr 2
  unfold flB
  by_cases g1 : R (16 + p) = R (16 + o)
  · rw [if_pos g1]
    simp only [g1, Int32.lt_irrefl, true_and, false_or, decide_eq_true_eq]
    by_cases g3 : p < o
    · rw [if_pos g3, if_neg (by rw [nn_le _ _ (by omega) (by omega)]; omega)]
    · rw [if_neg g3, if_pos (by rw [nn_le _ _ (by omega) (by omega)]; omega)]
  · rw [if_neg g1]
    simp only [g1, false_and, or_false, decide_eq_true_eq]
    by_cases g3 : R (16 + p) < R (16 + o)
    · rw [if_pos g3, if_neg (Int32.not_le.mpr g3)]
    · rw [if_neg g3, if_pos (Int32.not_lt.mp g3)]
theorem s81 {R : Nat → Int32} {im : zI} {lm : zJ} (h : St24 R im) (p : Nat) (hp : p < 6) (hbp : bt (R 13) p = true) : ∀ d k n, k + d = 6 → d < n → F_81_4 n (nn p) (nn (cntN (fun o => ptB R o && flB R o p) k)) (nn k) im lm = some (nn (plc (ptB R) (flB R) 6 p), im, lm) := by
  intro d
  induction d with
  | zero =>
    intro k n hk hn'
    obtain ⟨m, rfl⟩ : ∃ m, n = m + 1 := ⟨n - 1, by omega⟩
    have : k = 6 := by omega
    subst this
    unfold F_81_4
    rw [if_pos (show (6 : Int32) ≤ nn 6 from Int32.le_refl _)]
    rfl
  | succ d ih =>
    intro k n hk hn'
    obtain ⟨m, rfl⟩ : ∃ m, n = m + 1 := ⟨n - 1, by omega⟩
    have h0 : ¬ ((6 : Int32) ≤ nn k) := nn_ge k 6 (by omega) (by omega)
    have ih := ih (k + 1) m (by omega) (by omega)
    have e : cntN (fun o => ptB R o && flB R o p) (k + 1) = cntN (fun o => ptB R o && flB R o p) k + (if (ptB R k && flB R k p) = true then 1 else 0) := rfl
    rw [e] at ih
    unfold F_81_4
    rw [if_neg h0]
    simp (disch := omega) only [nn_mull, nn_mulr, nn_addl, nn_addr, nn_add, nn_mul, tn_nn, tn_l, inb_nn, inb_l, zCk_t, ite_self, zBd_s, st_le h]
    cases hb : bt (R 13) k
    · rw [if_pos rfl]
      rw [show ptB R k = false from hb, Bool.false_and, if_neg (by decide)] at ih
      exact ih
    · rw [if_neg (by decide), s80 h k p (by omega) hp hb hbp, zBd_s]
      rw [show ptB R k = true from hb, Bool.true_and] at ih
      cases hq : flB R k p
      · rw [hq, if_neg (by decide)] at ih
        exact ih
      · rw [hq, if_pos rfl] at ih
        rw [if_pos rfl, if_neg (by decide)]
        exact ih
theorem s82 {R : Nat → Int32} {im : zI} {lm : zJ} (h : St24 R im) (a : Nat) (ha6 : a ≤ 6) (h23 : im 23 0 = nn a) : ∀ d k n, k + d = 6 → d < n → (∀ p, p < k → ¬ (ptB R p = true ∧ plc (ptB R) (flB R) 6 p = a)) → F_82_2 n (nn k) im lm = some (nxt R a (-10000005), im, lm) := by
  intro d
  induction d with
  | zero =>
    intro k n hk hn' hno
    obtain ⟨m, rfl⟩ : ∃ m, n = m + 1 := ⟨n - 1, by omega⟩
    have : k = 6 := by omega
    subst this
    unfold F_82_2
    rw [if_pos (show (6 : Int32) ≤ nn 6 from Int32.le_refl _)]
    unfold nxt
    cases ha : atp (ptB R) (flB R) 6 a with
    | none => rfl
    | some p =>
      obtain ⟨g1, g2, g3⟩ := (atp_some _ _ (fl_o R) _ _ _).mp ha
      exact absurd ⟨g2, g3⟩ (hno p g1)
  | succ d ih =>
    intro k n hk hn' hno
    obtain ⟨m, rfl⟩ : ∃ m, n = m + 1 := ⟨n - 1, by omega⟩
    have h0 : ¬ ((6 : Int32) ≤ nn k) := nn_ge k 6 (by omega) (by omega)
    unfold F_82_2
    rw [if_neg h0]
    simp (disch := omega) only [nn_mull, nn_mulr, nn_addl, nn_addr, nn_add, nn_mul, tn_nn, tn_l, inb_nn, inb_l, zCk_t, ite_self, zBd_s, st_le h]
    cases hb : bt (R 13) k
    · rw [if_pos rfl]
      refine ih (k + 1) m (by omega) (by omega) (fun p hp h => ?_)
      by_cases g : p = k
      · subst g; rw [show ptB R p = false from hb] at h; exact absurd h.1 (by decide)
      · exact hno p (by omega) h
    · have h81 := s81 (lm := lm) h k (by omega) hb 6 0 2000 (by omega) (by omega)
      have hpl := plc_lt (ptB R) (flB R) (fl_o R) 6 k (by omega) hb
      have hcl := cntN_le (ptB R) 6
      rw [if_neg (by decide), show m_81 (nn k) im lm = _ from h81, zBd_s, h23]
      by_cases g : plc (ptB R) (flB R) 6 k = a
      · rw [g, if_pos rfl]
        have ha : atp (ptB R) (flB R) 6 a = some k := (atp_some _ _ (fl_o R) _ _ _).mpr ⟨by omega, hb, g⟩
        unfold nxt
        rw [ha]
      · rw [if_neg (by rw [nn_inj _ _ (by omega) (by omega)]; exact g)]
        refine ih (k + 1) m (by omega) (by omega) (fun p hp h => ?_)
        by_cases g2 : p = k
        · subst g2; exact g h.2
        · exact hno p (by omega) h
theorem s83w {R : Nat → Int32} {im : zI} {lm : zJ} (h : St24 R im) : m_83 im lm = some (nn (cntN (ptB R) 6), im, lm) := by
  have h1 := s83 im lm 6 0 2000 rfl (by omega)
  have e : cntN (fun p => !decide (im 24 p ≤ 0)) 6 = cntN (ptB R) 6 := cntN_c 6 (fun p hp => by
    unfold ptB
    simp only [st_le h hp]
    cases bt (R 13) p <;> rfl)
  rw [e] at h1
  exact h1
