/-! THE RELATION of the class's memory to rows -/
def rN (R : Nat → Int32) : Nat := (R 1).toNatClampNeg
def rE (R : Nat → Int32) : Nat := (R 5).toNatClampNeg
def sc (R : Nat → Int32) (p : Nat) : Int32 := zsc R (rE R) p
def told (R : Nat → Int32) (p t : Nat) : Bool := bt (R (30 + 4 * p + t / 25)) (t % 25)
def fstF (f : Nat → Bool) : Nat → Nat → Int32
  | 0, _ => -1
  | d + 1, t => if f t = true then nn t else fstF f d (t + 1)
def eolS (f : Nat → Bool) (lk t e : Nat) : Nat := if f t = true then (if e < t + lk then t + lk else e) else e
def eolF (f : Nat → Bool) (rd lk : Nat) : Nat := zIt (eolS f lk) rd 0 rd
def cntF (f : Nat → Bool) (rd lk : Nat) : Int32 := fstF f (100 - eolF f rd lk) (eolF f rd lk)
/-- the tick of the buzz that counts -/
def cnt (R : Nat → Int32) (p : Nat) : Int32 := cntF (told R p) (R 3).toNatClampNeg (R 4).toNatClampNeg
def isqB (R : Nat → Int32) (p : Nat) : Bool := !decide (cnt R p < 0) && !(bt (R 14) p)
def qaB (R : Nat → Int32) (p o : Nat) : Bool := decide (cnt R p < cnt R o ∨ cnt R p = cnt R o ∧ (sc R p < sc R o ∨ sc R p = sc R o ∧ p < o))
def bfB (R : Nat → Int32) (a b : Nat) : Bool := decide (sc R b < sc R a ∨ sc R a = sc R b ∧ (zrt R (rE R) b < zrt R (rE R) a ∨ zrt R (rE R) a = zrt R (rE R) b ∧ (zwr R (rE R) a < zwr R (rE R) b ∨ zwr R (rE R) a = zwr R (rE R) b ∧ a < b)))
def flB (R : Nat → Int32) (p o : Nat) : Bool := decide (R (16 + p) < R (16 + o) ∨ R (16 + p) = R (16 + o) ∧ p < o)
def ptB (R : Nat → Int32) (p : Nat) : Bool := bt (R 13) p
theorem qa_o (R : Nat → Int32) : StO (qaB R) := by
  refine ⟨?_, ?_, ?_⟩
  · intro a; unfold qaB; simp only [decide_eq_false_iff_not, Int32.lt_iff_toInt_lt, ti_eq]; omega
  · intro a b c; unfold qaB; simp only [decide_eq_true_eq, Int32.lt_iff_toInt_lt, ti_eq]; omega
  · intro a b; unfold qaB; simp only [decide_eq_false_iff_not, decide_eq_true_eq, Int32.lt_iff_toInt_lt, ti_eq]; omega
theorem bf_o (R : Nat → Int32) : StO (bfB R) := by
  refine ⟨?_, ?_, ?_⟩
  · intro a; unfold bfB; simp only [decide_eq_false_iff_not, Int32.lt_iff_toInt_lt, ti_eq]; omega
  · intro a b c; unfold bfB; simp only [decide_eq_true_eq, Int32.lt_iff_toInt_lt, ti_eq]; omega
  · intro a b; unfold bfB; simp only [decide_eq_false_iff_not, decide_eq_true_eq, Int32.lt_iff_toInt_lt, ti_eq]; omega
theorem fl_o (R : Nat → Int32) : StO (flB R) := by
  refine ⟨?_, ?_, ?_⟩
  · intro a; unfold flB; simp only [decide_eq_false_iff_not, Int32.lt_iff_toInt_lt, ti_eq]; omega
  · intro a b c; unfold flB; simp only [decide_eq_true_eq, Int32.lt_iff_toInt_lt, ti_eq]; omega
  · intro a b; unfold flB; simp only [decide_eq_false_iff_not, decide_eq_true_eq, Int32.lt_iff_toInt_lt, ti_eq]; omega
def b6 (x : Int64) (i : Nat) : Bool := x.toBitVec.getLsbD i
def tld (lm : zJ) (b p t : Nat) : Bool := if t < 64 then b6 (lm (b + 4) p) t else b6 (lm (b + 5) p) (t - 64)
/-- rows are as rows are -/
def GD (R : Nat → Int32) : Prop :=
  (R 1 = nn (rN R) ∧ rN R ≤ 6) ∧ (R 5 = nn (rE R) ∧ rE R ≤ 60) ∧
  (∀ k, k < rE R → EG R k ∧ eP R k < rN R) ∧
  (∃ ph, ph ≤ 6 ∧ R 0 = nn ph) ∧
  ((R 0 = 1 ∨ R 0 = 2 ∨ R 0 = 3) → ∃ c, c < 25 ∧ R 2 = nn c ∧ (bt (R 11) c = true ↔ ¬ R 0 = 1) ∧ bt (R 10) c = true) ∧
  (¬ (R 0 = 1 ∨ R 0 = 2 ∨ R 0 = 3) → R 2 = -1) ∧
  ((∃ a, a ≤ 30 ∧ R 6 = nn a) ∧ (∃ a, a ≤ 30 ∧ R 7 = nn a) ∧ (∃ a, a ≤ 100 ∧ R 8 = nn a) ∧ (∃ a, a ≤ 30 ∧ R 3 = nn a) ∧ (∃ a, a ≤ 30 ∧ R 4 = nn a)) ∧
  ((¬ R 0 = 0 ∨ ¬ R 10 = 0) → 0 < rN R) ∧
  (∃ w, w ≤ 100000 ∧ R 12 = nn w) ∧
  (∀ i, 25 ≤ i → bt (R 10) i = false ∧ bt (R 11) i = false) ∧
  (∀ i, rN R ≤ i → bt (R 13) i = false ∧ bt (R 14) i = false) ∧
  (∀ p, p < 6 → bt (R 13) p = true → 0 < R (16 + p)) ∧
  (∀ p, p < 6 → R (22 + p) = -1 ∨ ∃ w, w ≤ 100000 ∧ R (22 + p) = nn w) ∧
  (R 0 = 5 → ∀ p, p < 6 → bt (R 13) p = true → ¬ R (22 + p) = -1) ∧
  (R 0 = 4 → R 14 = 0) ∧
  (∀ j, 360 ≤ j → R j = 0)
/-- the State at b is row R -/
def CR (im : zI) (lm : zJ) (b : Nat) (R : Nat → Int32) : Prop :=
  (im b 0 = R 0 ∧ im b 1 = R 1 ∧ im b 2 = R 11 ∧ im b 3 = R 10) ∧
  (∀ j, j < 3 → im (b + 1) j = R (6 + j)) ∧
  (im (b + 9) 0 = R 5 ∧ LgR im (b + 9) R (rE R)) ∧
  ((R 0 = 1 ∨ R 0 = 2 ∨ R 0 = 3) → im (b + 2) 0 = R 2) ∧
  (R 0 = 3 → im (b + 2) 3 = R 12) ∧
  (R 0 = 1 → im (b + 2) 1 = R 3 ∧ im (b + 2) 2 = R 4 ∧ im (b + 2) 4 = R 14 ∧ ∀ p, p < 6 → im (b + 3) p = orN (cnt R p) ∧ ∀ t, t < 100 → tld lm b p t = told R p t) ∧
  (∀ p, p < 6 → im (b + 8) p = orN (R (22 + p)) ∧ im (b + 7) p = if bt (R 13) p = true then R (16 + p) else 0) ∧
  (R 0 = 5 → ∃ a, im (b + 6) 0 = nn a ∧ a < cntN (ptB R) 6 ∧ ∀ p, p < 6 → bt (R 13) p = true → (bt (R 14) p = true ↔ plc (ptB R) (flB R) 6 p < a)) ∧
  ((R 0 = 0 ∨ R 0 = 1 ∨ R 0 = 2 ∨ R 0 = 3 ∨ R 0 = 4) → im (b + 6) 0 = 0)
/-- the State at b now is what that at c was -/
def RgE (im : zI) (lm : zJ) (im' : zI) (lm' : zJ) (b c : Nat) : Prop :=
  (∀ j, j < 4 → im' b j = im c j) ∧ (∀ j, j < 3 → im' (b + 1) j = im (c + 1) j) ∧ (∀ j, j < 5 → im' (b + 2) j = im (c + 2) j) ∧
  (∀ j, j < 6 → im' (b + 3) j = im (c + 3) j ∧ im' (b + 7) j = im (c + 7) j ∧ im' (b + 8) j = im (c + 8) j ∧ lm' (b + 4) j = lm (c + 4) j ∧ lm' (b + 5) j = lm (c + 5) j) ∧
  im' (b + 6) 0 = im (c + 6) 0 ∧ im' (b + 9) 0 = im (c + 9) 0 ∧
  (∀ j, j < 60 → im' (b + 10) j = im (c + 10) j ∧ im' (b + 11) j = im (c + 11) j ∧ im' (b + 12) j = im (c + 12) j ∧ im' (b + 13) j = im (c + 13) j ∧ im' (b + 14) j = im (c + 14) j)
theorem CR_cp {im im' : zI} {lm lm' : zJ} {b c : Nat} {R : Nat → Int32} (h : RgE im lm im' lm' b c) (hE : rE R ≤ 60) (hc : CR im lm c R) : CR im' lm' b R := by
  obtain ⟨h1, h2, h3, h4, h5, h6, h7⟩ := h
  obtain ⟨⟨c1, c2, c3, c4⟩, c5, ⟨c6, c7⟩, c8, c9, c10, c11, c12, c13⟩ := hc
  refine ⟨⟨?_, ?_, ?_, ?_⟩, ?_, ⟨?_, ?_⟩, ?_, ?_, ?_, ?_, ?_, ?_⟩
  · rw [h1 _ (by decide)]; exact c1
  · rw [h1 _ (by decide)]; exact c2
  · rw [h1 _ (by decide)]; exact c3
  · rw [h1 _ (by decide)]; exact c4
  · intro j hj; rw [h2 j hj]; exact c5 j hj
  · rw [h6]; exact c6
  · intro k hk
    obtain ⟨g1, g2, g3, g4, g5⟩ := h7 k (by omega)
    obtain ⟨l1, l2, l3, l4, l5⟩ := c7 k hk
    exact ⟨g1.trans l1, g2.trans l2, g3.trans l3, g4.trans l4, g5.trans l5⟩
  · intro h; rw [h3 _ (by decide)]; exact c8 h
  · intro h; rw [h3 _ (by decide)]; exact c9 h
  · intro h
    obtain ⟨d1, d2, d3, d4⟩ := c10 h
    refine ⟨?_, ?_, ?_, ?_⟩
    · rw [h3 _ (by decide)]; exact d1
    · rw [h3 _ (by decide)]; exact d2
    · rw [h3 _ (by decide)]; exact d3
    · intro p hp
      obtain ⟨e1, e2⟩ := d4 p hp
      obtain ⟨g1, g2, g3, g4, g5⟩ := h4 p hp
      refine ⟨g1.trans e1, ?_⟩
      intro t ht
      rw [← e2 t ht]
      unfold tld
      rw [g4, g5]
  · intro p hp
    obtain ⟨g1, g2, g3, g4, g5⟩ := h4 p hp
    exact ⟨g3.trans (c11 p hp).1, g2.trans (c11 p hp).2⟩
  · intro h
    obtain ⟨a, d1, d2⟩ := c12 h
    exact ⟨a, h5.trans d1, d2⟩
  · intro h; rw [h5]; exact c13 h
theorem RgE_same {im im' : zI} {lm lm' : zJ} {b : Nat} (h : ∀ i, i < 15 → im' (b + i) = im (b + i)) (h2 : ∀ i, i < 15 → lm' (b + i) = lm (b + i)) : RgE im lm im' lm' b b := by
  refine ⟨?_, ?_, ?_, ?_, ?_, ?_, ?_⟩
  · intro j _; have := h 0 (by decide); rw [Nat.add_zero] at this; rw [this]
  · intro j _; rw [h 1 (by decide)]
  · intro j _; rw [h 2 (by decide)]
  · intro j _; refine ⟨?_, ?_, ?_, ?_, ?_⟩
    · rw [h 3 (by decide)]
    · rw [h 7 (by decide)]
    · rw [h 8 (by decide)]
    · rw [h2 4 (by decide)]
    · rw [h2 5 (by decide)]
  · rw [h 6 (by decide)]
  · rw [h 9 (by decide)]
  · intro j _; refine ⟨?_, ?_, ?_, ?_, ?_⟩
    · rw [h 10 (by decide)]
    · rw [h 11 (by decide)]
    · rw [h 12 (by decide)]
    · rw [h 13 (by decide)]
    · rw [h 14 (by decide)]
/-! copies -/
def cp14 (im : zI) (b c : Nat) : zI := zeCpy (zeU2 (zeU2 (zeU2 (zeU2 im b 0 (im c 0)) b 1 (im c 1)) b 2 (im c 2)) b 3 (im c 3)) (c + 1) 0 (b + 1) 0 3
def cp11 (im : zI) (b c : Nat) : zI := zeCpy (zeU2 (zeU2 (zeU2 (zeU2 (zeU2 im (b + 2) 0 (im (c + 2) 0)) (b + 2) 1 (im (c + 2) 1)) (b + 2) 2 (im (c + 2) 2)) (b + 2) 3 (im (c + 2) 3)) (b + 2) 4 (im (c + 2) 4)) (c + 3) 0 (b + 3) 0 6
def cp12 (im : zI) (b c : Nat) : zI := zeCpy (zeCpy (zeU2 im (b + 6) 0 (im (c + 6) 0)) (c + 7) 0 (b + 7) 0 6) (c + 8) 0 (b + 8) 0 6
def cp13 (im : zI) (b c : Nat) : zI := zeCpy (zeCpy (zeCpy (zeCpy (zeCpy (zeU2 im (b + 9) 0 (im (c + 9) 0)) (c + 10) 0 (b + 10) 0 60) (c + 11) 0 (b + 11) 0 60) (c + 12) 0 (b + 12) 0 60) (c + 13) 0 (b + 13) 0 60) (c + 14) 0 (b + 14) 0 60
def cpI (im : zI) (b c : Nat) : zI := cp13 (cp12 (cp11 (cp14 im b c) b c) b c) b c
def cpL (lm : zJ) (b c : Nat) : zJ := zeCpy (zeCpy lm (c + 4) 0 (b + 4) 0 6) (c + 5) 0 (b + 5) 0 6
theorem cpy_n {α : Type} (f : Nat → Nat → α) (a0 sp a dp n a' : Nat) (h : a' ≠ a) : zeCpy f a0 sp a dp n a' = f a' := by
  funext j; rw [cpy_e, if_neg (fun g => h g.1)]
theorem cpy_s {α : Type} (f : Nat → Nat → α) (a0 a n j : Nat) (h : j < n) : zeCpy f a0 0 a 0 n a j = f a0 j := by
  rw [cpy_e, if_pos ⟨rfl, by omega, by omega⟩]; congr 1; omega
theorem cp_rg (im : zI) (lm : zJ) (b c : Nat) (h : b + 15 ≤ c ∨ c + 15 ≤ b) : RgE im lm (cpI im b c) (cpL lm b c) b c := by
  unfold cpI cpL cp13 cp12 cp11 cp14
  refine ⟨?_, ?_, ?_, ?_, ?_, ?_, ?_⟩
  · intro j hj
    have : j = 0 ∨ j = 1 ∨ j = 2 ∨ j = 3 := by omega
    rcases this with g | g | g | g <;> subst g <;> simp (disch := omega) only [cpy_n, u2n, u2_s, u2_j]
  · intro j hj; simp (disch := omega) only [cpy_n, cpy_s, u2n]
  · intro j hj
    have : j = 0 ∨ j = 1 ∨ j = 2 ∨ j = 3 ∨ j = 4 := by omega
    rcases this with g | g | g | g | g <;> subst g <;> simp (disch := omega) only [cpy_n, u2n, u2_s, u2_j]
  · intro j hj; refine ⟨?_, ?_, ?_, ?_, ?_⟩ <;> simp (disch := omega) only [cpy_n, cpy_s, u2n]
  · simp (disch := omega) only [cpy_n, u2n, u2_s]
  · simp (disch := omega) only [cpy_n, u2n, u2_s]
  · intro j hj; refine ⟨?_, ?_, ?_, ?_, ?_⟩ <;> simp (disch := omega) only [cpy_n, cpy_s, u2n]
theorem cp_fr (im : zI) (lm : zJ) (b c a : Nat) (h : a < b ∨ b + 15 ≤ a) : cpI im b c a = im a ∧ cpL lm b c a = lm a := by
  unfold cpI cpL cp13 cp12 cp11 cp14
  constructor <;> simp (disch := omega) only [cpy_n, u2n]
theorem s14_44_17 (im : zI) (lm : zJ) : m_14_44_17 im lm = some (0, cpI im 44 17, cpL lm 44 17) := rfl
theorem s14_17_44 (im : zI) (lm : zJ) : m_14_17_44 im lm = some (0, cpI im 17 44, cpL lm 17 44) := rfl
theorem s14_59_17 (im : zI) (lm : zJ) : m_14_59_17 im lm = some (0, cpI im 59 17, cpL lm 59 17) := rfl
theorem s14_17_59 (im : zI) (lm : zJ) : m_14_17_59 im lm = some (0, cpI im 17 59, cpL lm 17 59) := rfl
theorem s14_74_17 (im : zI) (lm : zJ) : m_14_74_17 im lm = some (0, cpI im 74 17, cpL lm 74 17) := rfl
theorem s14_17_74 (im : zI) (lm : zJ) : m_14_17_74 im lm = some (0, cpI im 17 74, cpL lm 17 74) := rfl
theorem s14_89_17 (im : zI) (lm : zJ) : m_14_89_17 im lm = some (0, cpI im 89 17, cpL lm 89 17) := rfl
theorem s14_17_89 (im : zI) (lm : zJ) : m_14_17_89 im lm = some (0, cpI im 17 89, cpL lm 17 89) := rfl
theorem s14_104_17 (im : zI) (lm : zJ) : m_14_104_17 im lm = some (0, cpI im 104 17, cpL lm 104 17) := rfl
theorem s14_17_104 (im : zI) (lm : zJ) : m_14_17_104 im lm = some (0, cpI im 17 104, cpL lm 17 104) := rfl
theorem s14_119_17 (im : zI) (lm : zJ) : m_14_119_17 im lm = some (0, cpI im 119 17, cpL lm 119 17) := rfl
theorem s14_17_119 (im : zI) (lm : zJ) : m_14_17_119 im lm = some (0, cpI im 17 119, cpL lm 17 119) := rfl
theorem s14_135_17 (im : zI) (lm : zJ) : m_14_135_17 im lm = some (0, cpI im 135 17, cpL lm 135 17) := rfl
theorem s14_17_135 (im : zI) (lm : zJ) : m_14_17_135 im lm = some (0, cpI im 17 135, cpL lm 17 135) := rfl
theorem s14_150_17 (im : zI) (lm : zJ) : m_14_150_17 im lm = some (0, cpI im 150 17, cpL lm 150 17) := rfl
theorem s14_17_150 (im : zI) (lm : zJ) : m_14_17_150 im lm = some (0, cpI im 17 150, cpL lm 17 150) := rfl
