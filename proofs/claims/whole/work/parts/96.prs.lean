/-! SCRIPTS: the text as a sequence of moves *-/
def mvL (x : Nat) : Nat := if x = 43 then 1 else if x = 45 then 1 else if x = 98 then 4 else if x = 110 then 1 else if x = 112 then 3 else if x = 119 then 5 else 0
def gdD (c : Nat → Nat) (s at_ : Nat) : Nat := if c s = 112 ∧ at_ = s + 1 then 50 else if c s = 112 ∧ c (s + 1) = 50 then 52 else if c s = 98 ∧ at_ = s + 1 then 53 else 57
def okD (c : Nat → Nat) (s at_ : Nat) : Prop := 48 ≤ c at_ ∧ c at_ ≤ gdD c s at_
/-- the first place, from at on, that isn't allowed in the move from s, of d digits -/
def scnS (c : Nat → Nat) (L s : Nat) : Nat → Nat → Option Nat
  | 0, _ => none
  | d + 1, p => if p < L ∧ 48 ≤ c p ∧ c p ≤ gdD c s p then scnS c L s d (p + 1) else some p
def mvB (c : Nat → Nat) (L s : Nat) : Option Nat := if mvL (c s) = 0 then some s else scnS c L s (mvL (c s) - 1) (s + 1)
/-- the fault of the text from s on; none: there is none -/
def flt (c : Nat → Nat) (L : Nat) : Nat → Nat → Option Nat
  | 0, _ => none
  | n + 1, s => if L ≤ s then none else match mvB c L s with
    | some f => some f
    | none => flt c L n (s + mvL (c s))
theorem scn_le (c : Nat → Nat) (L s : Nat) : ∀ d p f, p ≤ L → scnS c L s d p = some f → f ≤ L := by
  intro d
  induction d with
  | zero => intro p f _ h; cases h
  | succ d ih =>
    intro p f hp h
    unfold scnS at h
    by_cases g : p < L ∧ 48 ≤ c p ∧ c p ≤ gdD c s p
    · rw [if_pos g] at h; exact ih (p + 1) f (by omega) h
    · rw [if_neg g] at h; cases h; exact hp
theorem scn_none (c : Nat → Nat) (L s : Nat) : ∀ d p, p ≤ L → scnS c L s d p = none → p + d ≤ L ∧ ∀ x, p ≤ x → x < p + d → 48 ≤ c x ∧ c x ≤ gdD c s x := by
  intro d
  induction d with
  | zero => intro p hp _; exact ⟨hp, fun x h1 h2 => by omega⟩
  | succ d ih =>
    intro p hp h
    unfold scnS at h
    by_cases g : p < L ∧ 48 ≤ c p ∧ c p ≤ gdD c s p
    · rw [if_pos g] at h
      obtain ⟨h1, h2⟩ := ih (p + 1) (by omega) h
      refine ⟨by omega, fun x h3 h4 => ?_⟩
      by_cases gx : x = p
      · subst gx; exact g.2
      · exact h2 x (by omega) (by omega)
    · rw [if_neg g] at h; cases h
theorem gd_57 (c : Nat → Nat) (s p : Nat) : gdD c s p ≤ 57 := by
  unfold gdD
  by_cases g1 : c s = 112 ∧ p = s + 1
  · rw [if_pos g1]; omega
  by_cases g2 : c s = 112 ∧ c (s + 1) = 50
  · rw [if_neg g1, if_pos g2]; omega
  by_cases g3 : c s = 98 ∧ p = s + 1
  · rw [if_neg g1, if_neg g2, if_pos g3]; omega
  · rw [if_neg g1, if_neg g2, if_neg g3]; omega
theorem mvL_v (x : Nat) : mvL x ≤ 5 := by
  unfold mvL
  repeat' (first | omega | split)
theorem mvB_none {c : Nat → Nat} {L s : Nat} (hs : s < L) (h : mvB c L s = none) : 0 < mvL (c s) ∧ s + mvL (c s) ≤ L ∧ ∀ x, s < x → x < s + mvL (c s) → 48 ≤ c x ∧ c x ≤ gdD c s x := by
  unfold mvB at h
  by_cases g : mvL (c s) = 0
  · rw [if_pos g] at h; cases h
  · rw [if_neg g] at h
    obtain ⟨h1, h2⟩ := scn_none c L s _ _ (by omega) h
    exact ⟨by omega, by omega, fun x h3 h4 => h2 x (by omega) (by omega)⟩
/-! the class -/
def TxC (im : zI) (c : Nat → Nat) (L : Nat) : Prop := im 166 0 = nn L ∧ L ≤ 70 ∧ ∀ i, i < L → im 167 i = nn (c i) ∧ c i < 65536
def sgn (c : Nat → Nat) (L i : Nat) : Nat := if i < L then c i else 32
theorem nok_c (x : Nat) (h : x < 65536) : zeNok FieldType.char (nn x) = true := by
  unfold zeNok
  have : vp_nar FieldType.char (nn x) = nn x := by
    show ((nn x).toUInt32 % 65536).toInt32 = nn x
    have e : (nn x).toUInt32 % 65536 = UInt32.ofNat x := by
      apply UInt32.toNat_inj.1
      rw [UInt32.toNat_mod]
      have h1 : (nn x).toUInt32.toNat = x := Nat.mod_eq_of_lt (by omega)
      have h2 : (UInt32.ofNat x).toNat = x := Nat.mod_eq_of_lt (by omega)
      rw [h1, h2]
      exact Nat.mod_eq_of_lt h
    rw [e]; rfl
  rw [this]; exact decide_eq_true rfl
theorem s130 {im : zI} {c : Nat → Nat} {L : Nat} (h : TxC im c L) (lm : zJ) (i : Nat) (hi : i < 1000) : m_130 (nn i) im lm = some (nn (sgn c L i), im, lm) := by
  obtain ⟨h1, h2, h3⟩ := h
  unfold m_130 sgn
  rw [h1]
  have hn := nn_neg i (by omega)
  have hle : (nn L ≤ nn i) = (L ≤ i) := nn_le _ _ (by omega) (by omega)
  simp only [hn, if_false, hle]
  by_cases g : i < L
  · have g2 : ¬ L ≤ i := by omega
    simp (disch := omega) only [g, g2, if_true, if_false, nn_mull, nn_mulr, nn_addl, nn_addr, nn_add, nn_mul, tn_nn, tn_l, inb_nn, inb_l, zCk_t, ite_self, zBd_s, (h3 i g).1, nok_c _ (h3 i g).2]
  · have g2 : L ≤ i := by omega
    simp only [g, g2, if_true, if_false, zCk_t]; rfl
theorem sgn_lt {im : zI} {c : Nat → Nat} {L : Nat} (h : TxC im c L) (i : Nat) : sgn c L i < 65536 := by
  unfold sgn
  by_cases g : i < L
  · rw [if_pos g]; exact (h.2.2 i g).2
  · rw [if_neg g]; omega
theorem nnl (a k : Nat) (ha : a < 65536) (hk : k < 65536) : (nn a = nn k) = (a = k) := nn_inj _ _ (by omega) (by omega)
theorem s131 {im : zI} {c : Nat → Nat} {L : Nat} (h : TxC im c L) (lm : zJ) (i : Nat) (hi : i < 1000) : m_131 (nn i) im lm = some (nn (mvL (sgn c L i)), im, lm) := by
  have hx := sgn_lt h i
  unfold m_131
  rw [s130 h lm i hi, zBd_s]
  generalize sgn c L i = x at hx
  unfold mvL
  rw [show (43 : Int32) = nn 43 from rfl, show (45 : Int32) = nn 45 from rfl, show (98 : Int32) = nn 98 from rfl, show (110 : Int32) = nn 110 from rfl, show (112 : Int32) = nn 112 from rfl, show (119 : Int32) = nn 119 from rfl]
  simp only [nnl x 43 hx (by decide), nnl x 45 hx (by decide), nnl x 98 hx (by decide), nnl x 110 hx (by decide), nnl x 112 hx (by decide), nnl x 119 hx (by decide)]
  congr 2
  by_cases g1 : x = 43
  · rw [if_pos g1, if_pos g1]; rfl
  by_cases g2 : x = 45
  · rw [if_neg g1, if_pos g2, if_neg g1, if_pos g2]; rfl
  by_cases g3 : x = 98
  · rw [if_neg g1, if_neg g2, if_pos g3, if_neg g1, if_neg g2, if_pos g3]; rfl
  by_cases g4 : x = 110
  · rw [if_neg g1, if_neg g2, if_neg g3, if_pos g4, if_neg g1, if_neg g2, if_neg g3, if_pos g4]; rfl
  by_cases g5 : x = 112
  · rw [if_neg g1, if_neg g2, if_neg g3, if_neg g4, if_pos g5, if_neg g1, if_neg g2, if_neg g3, if_neg g4, if_pos g5]; rfl
  by_cases g6 : x = 119
  · rw [if_neg g1, if_neg g2, if_neg g3, if_neg g4, if_neg g5, if_pos g6, if_neg g1, if_neg g2, if_neg g3, if_neg g4, if_neg g5, if_pos g6]; rfl
  · rw [if_neg g1, if_neg g2, if_neg g3, if_neg g4, if_neg g5, if_neg g6, if_neg g1, if_neg g2, if_neg g3, if_neg g4, if_neg g5, if_neg g6]; rfl
theorem s132 {im : zI} {c : Nat → Nat} {L : Nat} (h : TxC im c L) (lm : zJ) (s p : Nat) (hs : s < L) (hp : s < p) (hpL : p < L) : m_132 (nn s) (nn p) im lm = some (nn (gdD c s p), im, lm) := by
  have hL := h.2.1
  have hx := sgn_lt h s
  have e1 : sgn c L s = c s := if_pos hs
  have e2 : sgn c L (s + 1) = c (s + 1) := if_pos (by omega)
  have hy := sgn_lt h (s + 1)
  rw [e1] at hx
  rw [e2] at hy
  have hps : (nn p = nn (s + 1)) = (p = s + 1) := nn_inj _ _ (by omega) (by omega)
  unfold m_132 J_132_22 J_132_43 gdD
  rw [s130 h lm s (by omega), zBd_s, e1, nn_addr, show s + OfNat.ofNat 1 = s + 1 from rfl, s130 h lm (s + 1) (by omega), zBd_s, e2, show (112 : Int32) = nn 112 from rfl, show (50 : Int32) = nn 50 from rfl, show (98 : Int32) = nn 98 from rfl]
  simp only [nnl (c s) 112 hx (by decide), nnl (c s) 98 hx (by decide), nnl (c (s + 1)) 50 hy (by decide), hps]
  congr 2
  by_cases g1 : c s = 112 <;> by_cases g2 : p = s + 1 <;> by_cases g3 : c s = 98 <;> by_cases g4 : c (s + 1) = 50 <;> (try omega) <;> simp only [g1, g2, g3, g4, if_true, if_false, true_and, and_true, false_and, and_false, eq_self, Nat.reduceEqDiff] <;> rfl
theorem nn_s1 (p : Nat) : nn p + 1 = nn (p + 1) := nn_addr p 1
theorem s134_e {im : zI} {c : Nat → Nat} {L : Nat} (h : TxC im c L) (lm : zJ) (hL0 : 0 < L) (s n : Nat) (hs : s ≤ L) : F_134_4 (n + 1) (nn s) (nn L) im lm = some (if s = L then -1 else nn L, im, lm) := by
  have hL := h.2.1
  have z : ¬ nn L ≤ 0 := nn_ge 0 L (by omega) (by omega)
  have e : (nn s = nn L) = (s = L) := nn_inj _ _ (by omega) (by omega)
  rw [F_134_4.eq_2, h.1, if_pos (Int32.le_refl _)]
  simp only [z, e, if_false]
theorem s134_al {im : zI} {c : Nat → Nat} {L : Nat} (h : TxC im c L) (lm : zJ) (s p : Nat) (hp : s < p) (g : p < L) : m_133 (nn s) (nn p) im lm = some (if 48 ≤ c p ∧ c p ≤ gdD c s p then 1 else 0, im, lm) := by
  have hL := h.2.1
  have hcp := (h.2.2 p g).2
  have hsp : sgn c L p = c p := if_pos g
  have hps : ¬ nn p = nn s := by rw [nn_inj _ _ (by omega) (by omega)]; omega
  have hg57 := gd_57 c s p
  have l1 : (nn (c p) < 48) = (c p < 48) := by rw [show (48 : Int32) = nn 48 from rfl]; exact nn_lt _ _ (by omega) (by omega)
  have l2 : (nn (gdD c s p) < nn (c p)) = (gdD c s p < c p) := nn_lt _ _ (by omega) (by omega)
  unfold m_133
  rw [if_neg hps, s130 h lm p (by omega), zBd_s, hsp]
  simp only [l1]
  by_cases q1 : c p < 48
  · rw [if_pos q1, if_neg (by omega)]
  · rw [if_neg q1, s132 h lm s p (by omega) hp g, zBd_s]
    simp only [l2]
    by_cases q2 : gdD c s p < c p
    · rw [if_pos q2, if_neg (by omega)]
    · rw [if_neg q2, if_pos (by omega)]
theorem s134_st {im : zI} {c : Nat → Nat} {L : Nat} (h : TxC im c L) (lm : zJ) (s p n : Nat) (hp : s < p) (g : p < L) : F_134_4 (n + 1) (nn s) (nn p) im lm = if 48 ≤ c p ∧ c p ≤ gdD c s p then F_134_4 n (if p + 1 - s = mvL (c s) then nn (p + 1) else nn s) (nn (p + 1)) im lm else some (nn p, im, lm) := by
  have hL := h.2.1
  have hml := mvL_v (c s)
  have e1 : sgn c L s = c s := if_pos (by omega)
  rw [F_134_4.eq_2, h.1, if_neg (nn_ge p L g (by omega)), s134_al h lm s p hp g, zBd_s]
  by_cases q : 48 ≤ c p ∧ c p ≤ gdD c s p
  · rw [if_pos q, if_neg (show ¬ (1 : Int32) = 0 by decide), if_pos q, s131 h lm s (by omega), zBd_s, e1]
    have hsub : (nn p + 1 - nn s = nn (mvL (c s))) = (p + 1 - s = mvL (c s)) := by
      rw [nn_s1, show nn (p + 1) - nn s = nn (p + 1 - s) from nn_sub _ _ (by omega) (by omega), nn_inj _ _ (by omega) (by omega)]
    simp only [hsub]
    simp only [nn_s1]
  · rw [if_neg q, if_pos rfl, if_neg q]
/-- the digits of a move -/
theorem s134_d {im : zI} {c : Nat → Nat} {L : Nat} (h : TxC im c L) (lm : zJ) (hL0 : 0 < L) (s : Nat) (hs : s < L) : ∀ d p n, p + (d + 1) = s + mvL (c s) → s < p → p ≤ L → 101 < n + p → (∃ f, scnS c L s (d + 1) p = some f ∧ F_134_4 n (nn s) (nn p) im lm = some (nn f, im, lm)) ∨ (scnS c L s (d + 1) p = none ∧ ∃ n', 101 < n' + (s + mvL (c s)) ∧ F_134_4 n (nn s) (nn p) im lm = F_134_4 n' (nn (s + mvL (c s))) (nn (s + mvL (c s))) im lm) := by
  have hL := h.2.1
  have hml := mvL_v (c s)
  intro d
  induction d with
  | zero =>
    intro p n hd hp hpL hn
    obtain ⟨m, rfl⟩ : ∃ m, n = m + 1 := ⟨n - 1, by omega⟩
    have hsc : scnS c L s (0 + 1) p = if p < L ∧ 48 ≤ c p ∧ c p ≤ gdD c s p then none else some p := rfl
    rw [hsc]
    by_cases g : p < L
    · rw [s134_st h lm s p m hp g]
      by_cases q : 48 ≤ c p ∧ c p ≤ gdD c s p
      · rw [if_pos q, if_pos ⟨g, q⟩, if_pos (by omega)]
        refine Or.inr ⟨rfl, m, by omega, ?_⟩
        rw [show p + 1 = s + mvL (c s) by omega]
      · rw [if_neg q, if_neg (fun hh => q hh.2)]
        exact Or.inl ⟨p, rfl, rfl⟩
    · have hpe : p = L := by omega
      subst hpe
      rw [if_neg (fun hh => g hh.1), s134_e h lm hL0 s m (by omega), if_neg (by omega)]
      exact Or.inl ⟨p, rfl, rfl⟩
  | succ d ih =>
    intro p n hd hp hpL hn
    obtain ⟨m, rfl⟩ : ∃ m, n = m + 1 := ⟨n - 1, by omega⟩
    have hsc : scnS c L s (d + 1 + 1) p = if p < L ∧ 48 ≤ c p ∧ c p ≤ gdD c s p then scnS c L s (d + 1) (p + 1) else some p := rfl
    rw [hsc]
    by_cases g : p < L
    · rw [s134_st h lm s p m hp g]
      by_cases q : 48 ≤ c p ∧ c p ≤ gdD c s p
      · rw [if_pos q, if_pos ⟨g, q⟩, if_neg (by omega)]
        exact ih (p + 1) m (by omega) (by omega) (by omega) (by omega)
      · rw [if_neg q, if_neg (fun hh => q hh.2)]
        exact Or.inl ⟨p, rfl, rfl⟩
    · have hpe : p = L := by omega
      subst hpe
      rw [if_neg (fun hh => g hh.1), s134_e h lm hL0 s m (by omega), if_neg (by omega)]
      exact Or.inl ⟨p, rfl, rfl⟩
/-- a move -/
theorem s134_m {im : zI} {c : Nat → Nat} {L : Nat} (h : TxC im c L) (lm : zJ) (hL0 : 0 < L) (s : Nat) (hs : s < L) (n : Nat) (hn : 101 < n + s) : (∃ f, mvB c L s = some f ∧ F_134_4 n (nn s) (nn s) im lm = some (nn f, im, lm)) ∨ (mvB c L s = none ∧ ∃ n', 101 < n' + (s + mvL (c s)) ∧ F_134_4 n (nn s) (nn s) im lm = F_134_4 n' (nn (s + mvL (c s))) (nn (s + mvL (c s))) im lm) := by
  have hL := h.2.1
  have e1 : sgn c L s = c s := if_pos hs
  have hml := mvL_v (c s)
  obtain ⟨m, rfl⟩ : ∃ m, n = m + 1 := ⟨n - 1, by omega⟩
  have hal : m_133 (nn s) (nn s) im lm = some (if mvL (c s) = 0 then 0 else 1, im, lm) := by
    unfold m_133
    rw [if_pos rfl, s131 h lm s (by omega), zBd_s, e1]
    have e : (nn (mvL (c s)) ≤ 0) = (mvL (c s) = 0) := by
      rw [show (0 : Int32) = nn 0 from rfl, nn_le _ _ (by omega) (by omega)]
      exact propext ⟨fun h => by omega, fun h => by omega⟩
    simp only [e]
  have hstep : F_134_4 (m + 1) (nn s) (nn s) im lm = if mvL (c s) = 0 then some (nn s, im, lm) else F_134_4 m (if 1 = mvL (c s) then nn (s + 1) else nn s) (nn (s + 1)) im lm := by
    rw [F_134_4.eq_2, h.1, if_neg (nn_ge s L hs (by omega)), hal, zBd_s]
    by_cases g : mvL (c s) = 0
    · rw [if_pos g, if_pos rfl, if_pos g]
    · have hsub : (nn s + 1 - nn s = nn (mvL (c s))) = (1 = mvL (c s)) := by
        rw [nn_s1, show nn (s + 1) - nn s = nn (s + 1 - s) from nn_sub _ _ (by omega) (by omega), nn_inj _ _ (by omega) (by omega), show s + 1 - s = 1 by omega]
      rw [if_neg g, if_neg (show ¬ (1 : Int32) = 0 by decide), if_neg g, s131 h lm s (by omega), zBd_s, e1]
      simp only [hsub]
      simp only [nn_s1]
  rw [hstep]
  unfold mvB
  by_cases g : mvL (c s) = 0
  · rw [if_pos g, if_pos g]; exact Or.inl ⟨s, rfl, rfl⟩
  · rw [if_neg g, if_neg g]
    by_cases g1 : 1 = mvL (c s)
    · rw [if_pos g1, ← g1]
      exact Or.inr ⟨rfl, m, by omega, rfl⟩
    · rw [if_neg g1]
      obtain ⟨d, hd⟩ : ∃ d, mvL (c s) - 1 = d + 1 := ⟨mvL (c s) - 2, by omega⟩
      rw [hd]
      exact s134_d h lm hL0 s hs d (s + 1) m (by omega) (by omega) (by omega) (by omega)
theorem s134_l {im : zI} {c : Nat → Nat} {L : Nat} (h : TxC im c L) (lm : zJ) (hL0 : 0 < L) : ∀ k s n, s ≤ L → L < k + s → 101 < n + s → F_134_4 n (nn s) (nn s) im lm = some (match flt c L k s with | some f => nn f | none => -1, im, lm) := by
  have hL := h.2.1
  intro k
  induction k with
  | zero => intro s n hs hk; omega
  | succ k ih =>
    intro s n hs hk hn
    unfold flt
    by_cases g : L ≤ s
    · have hsL : s = L := by omega
      subst hsL
      obtain ⟨m, rfl⟩ : ∃ m, n = m + 1 := ⟨n - 1, by omega⟩
      rw [if_pos g, s134_e h lm hL0 s m (by omega), if_pos rfl]
    · rw [if_neg g]
      rcases s134_m h lm hL0 s (by omega) n hn with ⟨f, h1, h2⟩ | ⟨h1, n', h2, h3⟩
      · rw [h1, h2]
      · obtain ⟨q1, q2, q3⟩ := mvB_none (by omega) h1
        rw [h1, h3]
        exact ih (s + mvL (c s)) n' q2 (by omega) (by omega)
/-- the fault of the text as a whole: for the empty text, place 0 -/
def fltT (c : Nat → Nat) (L : Nat) : Int32 := if L = 0 then 0 else match flt c L (L + 1) 0 with | some f => nn f | none => -1
theorem s134 {im : zI} {c : Nat → Nat} {L : Nat} (h : TxC im c L) (lm : zJ) : m_134 im lm = some (fltT c L, im, lm) := by
  unfold m_134 fltT
  by_cases g : L = 0
  · subst g
    rw [if_pos rfl, F_134_4.eq_2, h.1, if_pos (show nn 0 ≤ 0 from Int32.le_refl _), if_pos (show nn 0 ≤ 0 from Int32.le_refl _)]; rfl
  · rw [if_neg g]
    exact s134_l h lm (by omega) (L + 1) 0 2000 (by omega) (by omega) (by omega)
theorem flt_le (c : Nat → Nat) (L : Nat) : ∀ n s f, s ≤ L → flt c L n s = some f → f ≤ L := by
  intro n
  induction n with
  | zero => intro s f _ h; cases h
  | succ n ih =>
    intro s f hs h
    unfold flt at h
    by_cases g : L ≤ s
    · rw [if_pos g] at h; cases h
    · rw [if_neg g] at h
      cases hB : mvB c L s with
      | some f' =>
        rw [hB] at h
        have h : f' = f := by cases h; rfl
        subst h
        unfold mvB at hB
        by_cases g2 : mvL (c s) = 0
        · rw [if_pos g2] at hB; cases hB; omega
        · rw [if_neg g2] at hB; exact scn_le c L s _ _ _ (by omega) hB
      | none =>
        rw [hB] at h
        exact ih _ _ (mvB_none (by omega) hB).2.1 h
