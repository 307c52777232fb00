/-! THE CLASS: the replay's loop -/
theorem i_antisymm {a b : Int32} (h1 : ¬ a < b) (h2 : a ≤ b) : a = b := by
  rw [Int32.lt_iff_toInt_lt] at h1
  rw [Int32.le_iff_toInt_le] at h2
  rw [ti_eq]
  omega
theorem i_le {a b : Int32} (h1 : a < b) : a ≤ b := by
  rw [Int32.lt_iff_toInt_lt] at h1
  rw [Int32.le_iff_toInt_le]
  omega
theorem min_e (a t : Int32) : (if a < t then a else t) = (if a ≤ t then a else t) := by
  by_cases h : a < t
  · rw [if_pos h, if_pos (i_le h)]
  · rw [if_neg h]
    by_cases h2 : a ≤ t
    · rw [if_pos h2, i_antisymm h h2]
    · rw [if_neg h2]
theorem max_e (x c : Int32) : (if x < c then c else x) = (if x ≤ c then c else x) := by
  by_cases h : x < c
  · rw [if_pos h, if_pos (i_le h)]
  · rw [if_neg h]
    by_cases h2 : x ≤ c
    · rw [if_pos h2, i_antisymm h h2]
    · rw [if_neg h2]
theorem limC_e (s t x : Int32) : (if s = 2 then (if (if x < 500 then 500 else x) < t then (if x < 500 then 500 else x) else t) else if s = 3 then (if (if x < 0 then 0 else x) < t then (if x < 0 then 0 else x) else t) else t) = (if lim s t x ≤ t then lim s t x else t) := by
  unfold lim
  by_cases h2 : s = 2
  · simp only [if_pos h2, min_e, max_e]
  · by_cases h3 : s = 3
    · simp only [if_neg h2, if_pos h3, min_e, max_e]
    · simp only [if_neg h2, if_neg h3, Int32.le_refl, if_true]
theorem j50 (im : zI) (lm : zJ) (k P : Nat) (t s cl jd : Int32) (w : Bool) (hk : k < 60) (hP : P < 6) (h28 : im 28 k = s) (h29 : im 29 k = cl) (h31 : im 31 k = jd) (hcl : cl = -10000005 ∨ ∃ c, c < 25 ∧ cl = nn c) : ∃ im2, J_75_58 (nn k) (nn P) t (nn k) (zb (w = true)) im lm = some (0, im2, lm) ∧ ∀ b j, im2 b j = if b = 40 ∧ j = k then zb (w = true) else zfY im k P s jd t (if w = true then 0 else if lim s t (im 33 P) ≤ t then lim s t (im 33 P) else t) cl w b j := by
  unfold J_75_58
  simp (disch := omega) only [nn_mull, nn_mulr, nn_addl, nn_addr, nn_add, nn_mul, tn_nn, tn_l, inb_nn, inb_l, zCk_t, ite_self, zBd_s, u2_s, u2n, zb_nar, h28, zb_0, limC_e]
  have e : (if ¬ w = true then (if lim s t (im 33 P) ≤ t then lim s t (im 33 P) else t) else 0) = (if w = true then 0 else if lim s t (im 33 P) ≤ t then lim s t (im 33 P) else t) := by
    cases w <;> simp
  rw [e]
  obtain ⟨im2, h1, h2⟩ := j86 (zeU2 im 40 k (zb (w = true))) lm k P t (if w = true then 0 else if lim s t (im 33 P) ≤ t then lim s t (im 33 P) else t) s cl jd w hk hP (by rw [u2n _ _ _ _ _ (by decide)]; exact h28) (by rw [u2n _ _ _ _ _ (by decide)]; exact h29) (by rw [u2n _ _ _ _ _ (by decide)]; exact h31) (u2_s _ _ _ _) hcl
  refine ⟨im2, h1, ?_⟩
  intro b j
  rw [h2]
  unfold zfY
  by_cases g : b = 40
  · subst g; simp [u2_e]
  · simp [u2_e, g]
theorem j75 (im : zI) (lm : zJ) (k P : Nat) (t s cl jd : Int32) (w : Bool) (hk : k < 60) (hP : P < 6) (h27 : im 27 k = nn P) (h28 : im 28 k = s) (h29 : im 29 k = cl) (h30 : im 30 k = t) (h31 : im 31 k = jd) (hcl : cl = -10000005 ∨ ∃ c, c < 25 ∧ cl = nn c) (hw : w = true ↔ (s = 1 ∧ ∃ c, c < 25 ∧ cl = nn c ∧ ¬ im 37 c = -10000005)) : ∃ im2, m_75 (nn k) im lm = some (0, im2, lm) ∧ ∀ b j, im2 b j = if b = 40 ∧ j = k then zb (w = true) else zfY im k P s jd t (if w = true then 0 else if lim s t (im 33 P) ≤ t then lim s t (im 33 P) else t) cl w b j := by
  have h50 := j50 im lm k P t s cl jd w hk hP h28 h29 h31 hcl
  unfold m_75
  have hst : ((if nn P < 0 then (0 : Int32) else if 6 ≤ nn P then 0 else 1) = 0) = False := eq_false (by rw [if_neg (nn_neg P (by omega)), if_neg (show ¬ (6 : Int32) ≤ nn P from nn_ge P 6 hP (by omega))]; decide)
  simp (disch := omega) only [nn_mull, nn_mulr, nn_addl, nn_addr, nn_add, nn_mul, tn_nn, tn_l, inb_nn, inb_l, zCk_t, ite_self, zBd_s, h27, h28, h29, h30, hst, if_false]
  by_cases hs : s = 1
  · rw [if_pos hs]
    unfold m_72
    rcases hcl with hcl | ⟨c, hc, hcl⟩
    · have hwf : w = false := by
        cases w
        · rfl
        · obtain ⟨_, c, hc, h, _⟩ := hw.mp rfl
          exact absurd (hcl.symm.trans h).symm (nn_nn c (by omega))
      subst hwf hcl
      simp (disch := omega) only [nn_mull, nn_mulr, nn_addl, nn_addr, nn_add, nn_mul, tn_nn, tn_l, inb_nn, inb_l, zCk_t, ite_self, zBd_s, show ((-10000005 : Int32) < 0) = True from by decide, if_true]
      exact h50
    · subst hcl
      simp (disch := omega) only [nn_mull, nn_mulr, nn_addl, nn_addr, nn_add, nn_mul, tn_nn, tn_l, inb_nn, inb_l, zCk_t, ite_self, zBd_s, nn_neg c (by omega), show ((25 : Int32) ≤ nn c) = False from eq_false (nn_ge c 25 hc (by omega)), if_false, show ((1 : Int32) = 0) = False from by decide]
      by_cases g : im 37 c = -10000005
      · have hwf : w = false := by
          cases w
          · rfl
          · obtain ⟨_, c', hc', h, h2⟩ := hw.mp rfl
            rw [nn_inj _ _ (by omega) (by omega)] at h
            subst h
            exact absurd g h2
        subst hwf
        rw [if_pos g]
        exact h50
      · have hwt : w = true := hw.mpr ⟨hs, c, hc, rfl, g⟩
        subst hwt
        rw [if_neg g]
        exact h50
  · have hwf : w = false := by
      cases w
      · rfl
      · exact absurd (hw.mp rfl).1 hs
    subst hwf
    rw [if_neg hs]
    exact h50
/-- the class's log at its first State is the row's -/
def LgR (im : zI) (b : Nat) (R : Nat → Int32) (E : Nat) : Prop := ∀ k, k < E → im (b + 1) k = R (60 + 5 * k) ∧ im (b + 2) k = R (60 + 5 * k + 1) ∧ im (b + 3) k = orN (R (60 + 5 * k + 2)) ∧ im (b + 4) k = R (60 + 5 * k + 3) ∧ im (b + 5) k = orN (R (60 + 5 * k + 4))
/-- the class's replay behind k entries of row R -/
def RpV (im : zI) (R : Nat → Int32) (k : Nat) : Prop :=
  im 32 0 = zct R 0 k ∧
  (∀ q, q < 6 → im 33 q = zsc R k q ∧ im 34 q = zrt R k q ∧ im 35 q = zwr R k q ∧ im 36 q = zco R k q) ∧
  (∀ c, c < 25 → im 37 c = zsl R k c) ∧
  (∀ i, i < k → im 38 i = zam R i ∧ im 39 i = zsc R (i + 1) (eP R i) ∧ im 40 i = zb (vd R i = true))
theorem i_sub (a b : Int32) : a - b = a + -b := Int32.sub_eq_add_neg a b
theorem lit_s {s : Int32} (h : s = 0 ∨ s = 1 ∨ s = 2) : ¬ s = 4 ∧ ¬ 4 ≤ s ∧ ¬ 3 ≤ s ∧ ¬ s = 3 := by
  rcases h with h | h | h <;> subst h <;> decide
theorem RpV_step (im im2 : zI) (R : Nat → Int32) (k : Nat) (hg : EG R k) (h : RpV im R k) (he : ∀ b j, im2 b j = if b = 40 ∧ j = k then zb (vd R k = true) else zfY im k (eP R k) (R (60 + 5 * k + 1)) (orN (R (60 + 5 * k + 4))) (R (60 + 5 * k + 3)) (zam R k) (orN (R (60 + 5 * k + 2))) (vd R k) b j) : RpV im2 R (k + 1) := by
  obtain ⟨hc, hq, hsl, hi⟩ := h
  obtain ⟨⟨hp, hP⟩, hs, _⟩ := hg
  obtain ⟨p1, p2, p3, p4⟩ := hq _ hP
  have m1 : ¬ ((-1 : Int32) = 0) := by decide
  have m2 : ¬ ((-1 : Int32) = 1) := by decide
  have o1 : orN (-1) = -10000005 := by decide
  have o2 : orN 0 = 0 := by decide
  have o3 : orN 1 = 1 := by decide
  have oc : ∀ c, c < 25 → orN (nn c) = nn c := fun c hc => by unfold orN; rw [if_neg (nn_neg c (by omega))]
  have a4 : R (60 + 5 * k + 1) = 4 → vd R k = false ∧ zam R k = R (60 + 5 * k + 3) := by
    intro h4
    have hv : vd R k = false := by
      cases hv : vd R k
      · rfl
      · have := ((vd_iff R k).mp hv).1
        rw [h4] at this
        exact absurd this (by decide)
    refine ⟨hv, ?_⟩
    unfold zam amS lim
    rw [hv, h4]
    simp
  refine ⟨?_, ?_, ?_, ?_⟩
  · rw [he]
    unfold zfY
    rcases hs with ⟨c, hc25, h1, h2, h3, _, h4⟩ | ⟨h1, h2, h4⟩ | ⟨h1, h2, h4⟩
    · obtain ⟨g1, g2, g3, g4⟩ := lit_s h2
      rcases h4 with h4 | h4
      · simp [zct, hc, h4, o2]
      · simp [zct, hc, h4, o3, h1, oc c hc25, nn_neg c (by omega), g1, g3]
    · simp [zct, hc, h1, h2, o1]
    · simp [zct, hc, h1, h2]
  · intro q hq6
    obtain ⟨h1, h2, h3, h4⟩ := hq q hq6
    rcases hs with ⟨c, hc25, s1, s2, s3, _, s4⟩ | ⟨s1, s2, s4⟩ | ⟨s1, s2, s4⟩
    · obtain ⟨g1, g2, g3, g4⟩ := lit_s s2
      rcases s4 with s4 | s4 <;> refine ⟨?_, ?_, ?_, ?_⟩ <;> rw [he] <;> unfold zfY <;> by_cases g : q = eP R k <;> simp [g, zsc, zrt, zwr, zco, dlt, u1_s, u1_n, h1, h2, h3, h4, p1, p2, p3, p4, zam, s4, o2, o3, g1, g2, i_sub]
    · rcases s4 with s4 | s4 <;> refine ⟨?_, ?_, ?_, ?_⟩ <;> rw [he] <;> unfold zfY <;> by_cases g : q = eP R k <;> simp [g, zsc, zrt, zwr, zco, dlt, u1_s, u1_n, h1, h2, h3, h4, p1, p2, p3, p4, zam, s4, o2, o3, s2, i_sub]
    · obtain ⟨a1, a2⟩ := a4 s2
      unfold zam at a2
      refine ⟨?_, ?_, ?_, ?_⟩ <;> rw [he] <;> unfold zfY <;> by_cases g : q = eP R k <;> simp [g, zsc, zrt, zwr, zco, dlt, u1_s, u1_n, h1, h2, h3, h4, p1, p2, p3, p4, zam, s4, s2, a1, a2, m1, m2]
  · intro c hc25
    rw [he]
    unfold zfY
    rcases hs with ⟨c', hc', h1, h2, h3, _, h4⟩ | ⟨h1, h2, h4⟩ | ⟨h1, h2, h4⟩
    · obtain ⟨g1, g2, g3, g4⟩ := lit_s h2
      have hx : (R (60 + 5 * k + 2) = nn c ∧ c < 25) = (R (60 + 5 * k + 2) = nn c) := by simp [hc25]
      rcases h4 with h4 | h4
      · simp [zsl, h4, o2, hsl c hc25]
      · cases hv : vd R k
        · by_cases hcc : c' = c
          · subst hcc; simp [zsl, h1, h4, o3, oc _ hc', hc', g1, g2, hv]
          · have : ¬ (nn c' = nn c) := by rw [nn_inj _ _ (by omega) (by omega)]; exact hcc
            simp [zsl, h1, h4, oc _ hc', this, hsl c hc25]
        · simp [zsl, hv, hsl c hc25]
    · have : ¬ (-10000005 = nn c) := fun h => nn_nn c (by omega) h.symm
      have t2 : ¬ (-1 = nn c) := fun h => by
        rw [ti_eq, ti_nn _ (by omega)] at h
        have : (-1 : Int32).toInt = -1 := by decide +kernel
        omega
      simp [zsl, h1, o1, this, t2, hsl c hc25]
    · simp [zsl, h2, hsl c hc25]
  · intro i hik
    by_cases g : i = k
    · subst g
      refine ⟨?_, ?_, ?_⟩
      · rw [he]; unfold zfY; simp
      · rw [he]; unfold zfY
        rcases hs with ⟨c, hc25, s1, s2, s3, _, s4⟩ | ⟨s1, s2, s4⟩ | ⟨s1, s2, s4⟩
        · obtain ⟨g1, g2, g3, g4⟩ := lit_s s2
          rcases s4 with s4 | s4 <;> simp [zsc, dlt, u1_s, p1, zam, s4, o2, o3, g1, i_sub]
        · rcases s4 with s4 | s4 <;> simp [zsc, dlt, u1_s, p1, zam, s4, o2, o3, s2, i_sub]
        · obtain ⟨a1, a2⟩ := a4 s2
          unfold zam at a2
          simp [zsc, dlt, u1_s, p1, s4, s2, a2, m1]
      · rw [he]; simp
    · have hi' := hi i (by omega)
      refine ⟨?_, ?_, ?_⟩ <;> rw [he] <;> unfold zfY <;> simp [g, hi']
