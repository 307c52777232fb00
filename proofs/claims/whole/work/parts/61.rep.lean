/-! THE MODEL: the replay, one entry -/
/-- entry k of row R is a steal that doesn't count: sort 1, and an answer to its clue before it, of sort 0 or 1, was right -/
def vdF (R : Nat → Int32) (k j : Nat) (a : Bool) : Bool := a || (!decide (2 ≤ R (60 + 5 * j + 1)) && (decide (R (60 + 5 * j + 2) = R (60 + 5 * k + 2)) && decide (R (60 + 5 * j + 4) = 1)))
def vd (R : Nat → Int32) (k : Nat) : Bool := decide (R (60 + 5 * k + 1) = 1) && zIt (vdF R k) k 0 false
theorem s46_l (im : zI) (lm : zJ) (k : Nat) (hk : k < 60) (h1 : im 171 (60 + 5 * k + 1) = 1) : ∀ d j n (a : Bool), j + d = k → d < n → F_46_4 n (nn k) (zb (a = true)) (nn j) im lm = some (zb (zIt (vdF (im 171) k) d j a = true), im, lm) := by
  intro d
  induction d with
  | zero =>
    intro j n a hj hn
    obtain ⟨m, rfl⟩ : ∃ m, n = m + 1 := ⟨n - 1, by omega⟩
    have : j = k := by omega
    subst this
    unfold F_46_4
    rw [if_pos (Int32.le_refl _), zb_nok, zCk_t]
    rfl
  | succ d ih =>
    intro j n a hj hn
    obtain ⟨m, rfl⟩ : ∃ m, n = m + 1 := ⟨n - 1, by omega⟩
    have e0 : ¬ (nn k ≤ nn j) := by rw [nn_le _ _ (by omega) (by omega)]; omega
    have hv : (if zb (a = true) = 0 then if 2 ≤ im 171 (60 + 5 * j + 1) then 0 else if im 171 (60 + 5 * j + 2) = im 171 (60 + 5 * k + 2) then if im 171 (60 + 5 * j + 4) = 1 then 1 else 0 else 0 else 1 : Int32) = zb (vdF (im 171) k j a = true) := by
      unfold vdF
      cases a
      · by_cases h2 : 2 ≤ im 171 (60 + 5 * j + 1) <;> by_cases h3 : im 171 (60 + 5 * j + 2) = im 171 (60 + 5 * k + 2) <;> by_cases h4 : im 171 (60 + 5 * j + 4) = 1 <;> simp [h2, h3, h4, zb]
      · simp [zb]
    unfold F_46_4
    rw [if_neg e0]
    simp (disch := omega) only [nn_mull, nn_mulr, nn_addl, nn_addr, nn_add, nn_mul, tn_nn, tn_l, inb_nn, inb_l, zCk_t, ite_self, zBd_s]
    rw [if_pos h1, hv]
    exact ih (j + 1) m _ (by omega) (by omega)
theorem s46 (im : zI) (lm : zJ) (k : Nat) (hk : k < 60) : m_46 (nn k) im lm = some (zb (vd (im 171) k = true), im, lm) := by
  unfold m_46 vd
  by_cases h1 : im 171 (60 + 5 * k + 1) = 1
  · rw [decide_eq_true h1, Bool.true_and]
    exact s46_l im lm k hk h1 k 0 2000 false (by omega) (by omega)
  · rw [decide_eq_false h1, Bool.false_and]
    show F_46_4 (1999 + 1) (nn k) 0 (nn 0) im lm = _
    unfold F_46_4
    simp (disch := omega) only [nn_mull, nn_mulr, nn_addl, nn_addr, nn_add, nn_mul, tn_nn, tn_l, inb_nn, inb_l, zCk_t, ite_self, zBd_s]
    rw [if_neg h1]
    have e : zeNok FieldType.boolean 0 = true := by decide +kernel
    rw [e, zCk_t, ite_self]
    rfl
/-- the limit of entry k behind a score x -/
def lim (s t x : Int32) : Int32 := if s = 2 then (if x ≤ 500 then 500 else x) else if s = 3 then (if x ≤ 0 then 0 else x) else t
/-- player of entry k -/
def eP (R : Nat → Int32) (k : Nat) : Nat := (R (60 + 5 * k)).toNatClampNeg
/-- the amount of entry k behind a score x -/
def amS (R : Nat → Int32) (k : Nat) (x : Int32) : Int32 := if vd R k = true then 0 else if lim (R (60 + 5 * k + 1)) (R (60 + 5 * k + 3)) x ≤ R (60 + 5 * k + 3) then lim (R (60 + 5 * k + 1)) (R (60 + 5 * k + 3)) x else R (60 + 5 * k + 3)
def dlt (r a : Int32) : Int32 := if r = 0 then -a else a
/-- what one entry writes: a its amount, w whether it is void -/
def zfX (im : zI) (k P : Nat) (s r a : Int32) (w : Bool) (b j : Nat) : Int32 := if b = 177 ∧ j = k then zb (w = true) else if b = 176 ∧ j = k then a else if b = 175 ∧ j = P then im 175 P + dlt r a else if b = 178 ∧ j = k then im 175 P + dlt r a else if b = 181 ∧ j = P then im 181 P + (if s = 4 then a else 0) else if b = 179 ∧ j = P then im 179 P + (if ¬ 4 ≤ s ∧ r = 1 ∧ ¬ w = true then 1 else 0) else if b = 180 ∧ j = P then im 180 P + (if ¬ 4 ≤ s ∧ r = 0 ∧ ¬ w = true then 1 else 0) else if b = 170 ∧ j = 13 then (if ¬ 3 ≤ s ∧ r = 1 ∧ ¬ w = true then nn P else im 170 13) else im b j
theorem j182 (K : Int32 → zI → zJ → zR) (im : zI) (lm : zJ) (k P : Nat) (s t r l : Int32) (w : Bool) (hk : k < 60) (hP : P < 6) (h46 : m_46 (nn k) im lm = some (zb (w = true), im, lm)) : ∃ im2, J_47_182 K (nn k) (nn P) s t r l im lm = K (nn (k + 1)) im2 lm ∧ ∀ b j, im2 b j = zfX im k P s r (if w = true then 0 else if l ≤ t then l else t) w b j := by
  unfold J_47_182
  rw [h46, zBd_s]
  simp (disch := omega) only [nn_mull, nn_mulr, nn_addl, nn_addr, nn_add, nn_mul, tn_nn, tn_l, inb_nn, inb_l, zCk_t, ite_self, zBd_s, zb_nar, u2_s, u2n]
  unfold J_47_227
  simp (disch := omega) only [nn_mull, nn_mulr, nn_addl, nn_addr, nn_add, nn_mul, tn_nn, tn_l, inb_nn, inb_l, zCk_t, ite_self, zBd_s, u2_s, u2n]
  unfold J_47_256
  simp (disch := omega) only [nn_mull, nn_mulr, nn_addl, nn_addr, nn_add, nn_mul, tn_nn, tn_l, inb_nn, inb_l, zCk_t, ite_self, zBd_s, u2_s, u2n]
  unfold J_47_292
  simp (disch := omega) only [nn_mull, nn_mulr, nn_addl, nn_addr, nn_add, nn_mul, tn_nn, tn_l, inb_nn, inb_l, zCk_t, ite_self, zBd_s, u2_s, u2n]
  unfold J_47_326
  simp (disch := omega) only [nn_mull, nn_mulr, nn_addl, nn_addr, nn_add, nn_mul, tn_nn, tn_l, inb_nn, inb_l, zCk_t, ite_self, zBd_s, u2_s, u2n]
  unfold J_47_359
  simp (disch := omega) only [nn_mull, nn_mulr, nn_addl, nn_addr, nn_add, nn_mul, tn_nn, tn_l, inb_nn, inb_l, zCk_t, ite_self, zBd_s, u2_s, u2n]
  unfold J_47_390
  simp (disch := omega) only [nn_mull, nn_mulr, nn_addl, nn_addr, nn_add, nn_mul, tn_nn, tn_l, inb_nn, inb_l, zCk_t, ite_self, zBd_s, u2_s, u2n]
  refine ⟨_, rfl, ?_⟩
  intro b j
  unfold zfX dlt
  by_cases g1 : b = 177
  · subst g1; simp [u2_e, zb_0]
  by_cases g2 : b = 176
  · subst g2; cases w <;> simp [u2_e, zb_0]
  by_cases g3 : b = 175
  · subst g3; cases w <;> simp [u2_e, zb_0]
  by_cases g4 : b = 178
  · subst g4; cases w <;> simp [u2_e, zb_0]
  by_cases g5 : b = 181
  · subst g5; cases w <;> simp [u2_e, zb_0]
  by_cases g6 : b = 179
  · subst g6; cases w <;> by_cases h4 : 4 ≤ s <;> by_cases hr : r = 1 <;> simp [u2_e, zb_0, h4, hr]
  by_cases g7 : b = 180
  · subst g7; cases w <;> by_cases h4 : 4 ≤ s <;> by_cases hr : r = 0 <;> simp [u2_e, zb_0, h4, hr]
  by_cases g8 : b = 170
  · subst g8; cases w <;> by_cases h4 : 3 ≤ s <;> by_cases hr : r = 1 <;> simp [u2_e, zb_0, h4, hr]
  · simp [u2_e, g1, g2, g3, g4, g5, g6, g7, g8]
/-! THE MODEL: the replay as a whole -/
def zsc (R : Nat → Int32) : Nat → Nat → Int32
  | 0 => fun _ => 0
  | k + 1 => zeU1 (zsc R k) (eP R k) (zsc R k (eP R k) + dlt (R (60 + 5 * k + 4)) (amS R k (zsc R k (eP R k))))
def zam (R : Nat → Int32) (k : Nat) : Int32 := amS R k (zsc R k (eP R k))
def zco (R : Nat → Int32) : Nat → Nat → Int32
  | 0 => fun _ => 0
  | k + 1 => zeU1 (zco R k) (eP R k) (zco R k (eP R k) + (if R (60 + 5 * k + 1) = 4 then zam R k else 0))
def zrt (R : Nat → Int32) : Nat → Nat → Int32
  | 0 => fun _ => 0
  | k + 1 => zeU1 (zrt R k) (eP R k) (zrt R k (eP R k) + (if ¬ 4 ≤ R (60 + 5 * k + 1) ∧ R (60 + 5 * k + 4) = 1 ∧ ¬ vd R k = true then 1 else 0))
def zwr (R : Nat → Int32) : Nat → Nat → Int32
  | 0 => fun _ => 0
  | k + 1 => zeU1 (zwr R k) (eP R k) (zwr R k (eP R k) + (if ¬ 4 ≤ R (60 + 5 * k + 1) ∧ R (60 + 5 * k + 4) = 0 ∧ ¬ vd R k = true then 1 else 0))
def zct (R : Nat → Int32) (c0 : Int32) : Nat → Int32
  | 0 => c0
  | k + 1 => if ¬ 3 ≤ R (60 + 5 * k + 1) ∧ R (60 + 5 * k + 4) = 1 ∧ ¬ vd R k = true then nn (eP R k) else zct R c0 k
/-- memory im' behind k entries of the replay that began with im -/
def RpM (im im' : zI) (c0 : Int32) (k : Nat) : Prop :=
  (∀ a j, (a < 175 ∨ 181 < a) → (a = 170 → j ≠ 13) → im' a j = im a j) ∧ im' 170 13 = zct (im 171) c0 k ∧
  (∀ q, q < 6 → im' 175 q = zsc (im 171) k q ∧ im' 179 q = zrt (im 171) k q ∧ im' 180 q = zwr (im 171) k q ∧ im' 181 q = zco (im 171) k q) ∧
  (∀ i, i < k → im' 176 i = zam (im 171) i ∧ im' 177 i = zb (vd (im 171) i = true) ∧ im' 178 i = zsc (im 171) (i + 1) (eP (im 171) i))
theorem RpM_row {im im' : zI} {c0 : Int32} {k : Nat} (h : RpM im im' c0 k) : im' 171 = im 171 := by
  funext j; exact h.1 171 j (Or.inl (by decide)) (fun h => absurd h (by decide))
theorem RpM_step (im im' im2 : zI) (c0 : Int32) (k : Nat) (hP : eP (im 171) k < 6) (h : RpM im im' c0 k) (he : ∀ b j, im2 b j = zfX im' k (eP (im 171) k) (im 171 (60 + 5 * k + 1)) (im 171 (60 + 5 * k + 4)) (zam (im 171) k) (vd (im 171) k) b j) : RpM im im2 c0 (k + 1) := by
  obtain ⟨ha, hc, hq, hi⟩ := h
  obtain ⟨p1, p2, p3, p4⟩ := hq _ hP
  refine ⟨?_, ?_, ?_, ?_⟩
  · intro a j h1 h2
    rw [he]
    unfold zfX
    have g : ∀ c, 175 ≤ c → c ≤ 181 → ¬ (a = c) := fun c h3 h4 h5 => by omega
    simp only [g 177 (by decide) (by decide), g 176 (by decide) (by decide), g 175 (by decide) (by decide), g 178 (by decide) (by decide), g 181 (by decide) (by decide), g 179 (by decide) (by decide), g 180 (by decide) (by decide), false_and, if_false]
    rw [if_neg (fun h => h2 h.1 h.2)]
    exact ha a j h1 h2
  · rw [he]
    unfold zfX
    simp [zct, hc]
  · intro q hq6
    obtain ⟨h1, h2, h3, h4⟩ := hq q hq6
    refine ⟨?_, ?_, ?_, ?_⟩ <;> rw [he] <;> unfold zfX <;> by_cases g : q = eP (im 171) k <;> simp [g, zsc, zrt, zwr, zco, u1_s, u1_n, h1, h2, h3, h4, p1, p2, p3, p4, zam]
  · intro i hik
    by_cases g : i = k
    · subst g
      refine ⟨?_, ?_, ?_⟩ <;> rw [he] <;> unfold zfX <;> simp [zsc, u1_s, zam, p1]
    · have hi' := hi i (by omega)
      refine ⟨?_, ?_, ?_⟩ <;> rw [he] <;> unfold zfX <;> simp [g, hi']
/-- the log's players -/
def PlG (R : Nat → Int32) (E : Nat) : Prop := ∀ k, k < E → R (60 + 5 * k) = nn (eP R k) ∧ eP R k < 6
theorem s47_l (im : zI) (lm : zJ) (c0 : Int32) (E : Nat) (hE : E ≤ 60) (hn : im 171 5 = nn E) (hp : PlG (im 171) E) : ∀ d k n im', k + d = E → d < n → RpM im im' c0 k → ∃ im2, F_47_63 n (nn k) im' lm = some (0, im2, lm) ∧ RpM im im2 c0 E := by
  intro d
  induction d with
  | zero =>
    intro k n im' hk hn' hM
    obtain ⟨m, rfl⟩ : ∃ m, n = m + 1 := ⟨n - 1, by omega⟩
    have hkE : k = E := by omega
    subst hkE
    refine ⟨im', ?_, hM⟩
    unfold F_47_63
    rw [RpM_row hM, hn, if_pos (Int32.le_refl _)]
  | succ d ih =>
    intro k n im' hk hn' hM
    obtain ⟨m, rfl⟩ : ∃ m, n = m + 1 := ⟨n - 1, by omega⟩
    obtain ⟨h1, h2⟩ := hp k (by omega)
    have h0 : ¬ (nn E ≤ nn k) := by rw [nn_le _ _ (by omega) (by omega)]; omega
    have hR := RpM_row hM
    have hx : im' 175 (eP (im 171) k) = zsc (im 171) k (eP (im 171) k) := (hM.2.2.1 _ h2).1
    obtain ⟨im2, h3, h4⟩ := j182 (F_47_63 m) im' lm k (eP (im 171) k) (im 171 (60 + 5 * k + 1)) (im 171 (60 + 5 * k + 3)) (im 171 (60 + 5 * k + 4)) (lim (im 171 (60 + 5 * k + 1)) (im 171 (60 + 5 * k + 3)) (zsc (im 171) k (eP (im 171) k))) (vd (im 171) k) (by omega) h2 (by rw [← hR]; exact s46 im' lm k (by omega))
    have hM2 := RpM_step im im' im2 c0 k h2 hM h4
    obtain ⟨im3, h5, h6⟩ := ih (k + 1) m im2 (by omega) (by omega) hM2
    refine ⟨im3, ?_, h6⟩
    unfold F_47_63
    rw [hR, hn, if_neg h0]
    simp (disch := omega) only [nn_mull, nn_mulr, nn_addl, nn_addr, nn_add, nn_mul, tn_nn, tn_l, inb_nn, inb_l, zCk_t, ite_self, zBd_s, h1, hx]
    exact h3.trans h5
theorem s47_0 (lm : zJ) : ∀ d k n (im : zI), k + d = 6 → d < n → ∃ im2, F_47_21 n (nn k) im lm = F_47_63 2000 0 im2 lm ∧ (∀ a j, ¬ (a = 175 ∨ a = 179 ∨ a = 180 ∨ a = 181) → im2 a j = im a j) ∧ (∀ q, q < k → im2 175 q = im 175 q ∧ im2 179 q = im 179 q ∧ im2 180 q = im 180 q ∧ im2 181 q = im 181 q) ∧ (∀ q, k ≤ q → q < 6 → im2 175 q = 0 ∧ im2 179 q = 0 ∧ im2 180 q = 0 ∧ im2 181 q = 0) := by
  intro d
  induction d with
  | zero =>
    intro k n im hk hn
    obtain ⟨m, rfl⟩ : ∃ m, n = m + 1 := ⟨n - 1, by omega⟩
    have : k = 6 := by omega
    subst this
    refine ⟨im, ?_, fun _ _ _ => rfl, fun _ _ => ⟨rfl, rfl, rfl, rfl⟩, fun q h1 h2 => by omega⟩
    unfold F_47_21
    rw [if_pos (show (6 : Int32) ≤ nn 6 from Int32.le_refl _)]
  | succ d ih =>
    intro k n im hk hn
    obtain ⟨m, rfl⟩ : ∃ m, n = m + 1 := ⟨n - 1, by omega⟩
    have h0 : ¬ ((6 : Int32) ≤ nn k) := by rw [show (6 : Int32) = nn 6 from rfl, nn_le _ _ (by omega) (by omega)]; omega
    obtain ⟨im2, h1, h2, h3, h4⟩ := ih (k + 1) m (zeU2 (zeU2 (zeU2 (zeU2 im 175 k 0) 179 k 0) 180 k 0) 181 k 0) (by omega) (by omega)
    refine ⟨im2, ?_, ?_, ?_, ?_⟩
    · unfold F_47_21
      rw [if_neg h0]
      simp (disch := omega) only [nn_mull, nn_mulr, nn_addl, nn_addr, nn_add, nn_mul, tn_nn, tn_l, inb_nn, inb_l, zCk_t, ite_self, zBd_s]
      exact h1
    · intro a j h
      rw [h2 a j h]
      simp only [not_or] at h
      simp [u2_e, h]
    · intro q hq
      obtain ⟨g1, g2, g3, g4⟩ := h3 q (by omega)
      have : q ≠ k := by omega
      rw [g1, g2, g3, g4]
      simp [u2_e, this]
    · intro q hq hq6
      by_cases g : q = k
      · subst g
        obtain ⟨g1, g2, g3, g4⟩ := h3 q (by omega)
        rw [g1, g2, g3, g4]
        simp [u2_e]
      · exact h4 q (by omega) hq6
/-- the replay -/
theorem s47 (im : zI) (lm : zJ) (E : Nat) (hE : E ≤ 60) (hn : im 171 5 = nn E) (hp : PlG (im 171) E) : ∃ im2, m_47 im lm = some (0, im2, lm) ∧ RpM im im2 (if im 171 1 = 0 then -10000005 else 0) E := by
  obtain ⟨im1, h1, h2, h3, h4⟩ := s47_0 lm 6 0 2000 (zeU2 im 170 13 (if im 171 1 = 0 then -10000005 else 0)) rfl (by omega)
  have hM : RpM im im1 (if im 171 1 = 0 then -10000005 else 0) 0 := by
    refine ⟨?_, ?_, ?_, fun i h => absurd h (Nat.not_lt_zero i)⟩
    · intro a j g1 g2
      rw [h2 a j (by omega), u2_e, if_neg (fun h => g2 h.1 h.2)]
    · rw [h2 170 13 (by decide), u2_s]; rfl
    · intro q hq
      obtain ⟨p1, p2, p3, p4⟩ := h4 q (Nat.zero_le q) hq
      exact ⟨p1, p2, p3, p4⟩
  obtain ⟨im2, h5, h6⟩ := s47_l im lm _ E hE hn hp E 0 2000 im1 (by omega) (by omega) hM
  exact ⟨im2, h1.trans h5, h6⟩
