/-! THE MODEL: the replay -/
theorem j_358 {B : zeB} {im : Nat → Nat → Int32} {lm : Nat → Nat → Int64} (k P : Nat) (s r w : Int32) (o4 o6 : Option Value) (hk : k < 60) (hP : P < 6) : zeRun 47 358 [some (.ref 170), some (.int (nn k)), some (.int (nn P)), some (.int s), o4, some (.int r), o6] [.int w, .int (nn P), .ref 180] (zk B im lm) = zeRun 47 63 [some (.ref 170), some (.int (nn (k + 1))), some (.int (nn P)), some (.int s), o4, some (.int r), o6] [] (zk B (zeU2 (zeU2 im 180 P (w + 0)) 170 13 (if ¬ 3 ≤ s ∧ r = 1 ∧ im 177 k = 0 then nn P else im 170 13)) lm) := by
  have e1 : zeInb (nn P) 6 = true := inb_nn _ _ (by omega) (by omega)
  have e2 : zeInb (nn k) 60 = true := inb_nn _ _ (by omega) (by omega)
  have t1 : Int32.toNatClampNeg (nn P) = P := tn_nn _ (by omega)
  have t2 : Int32.toNatClampNeg (nn k) = k := tn_nn _ (by omega)
  have n1 : nn k + 1 = nn (k + 1) := nn_addr k 1
  have u1 : zeU2 im 180 P (w + 0) 177 k = im 177 k := u2_a _ _ _ _ _ _ (by decide)
  have u2 : zeU2 im 180 P (w + 0) 170 13 = im 170 13 := u2_a _ _ _ _ _ _ (by decide)
  rw [b_47_358 (c0 := e1), t1]
  by_cases h1 : 3 ≤ s
  · rw [if_pos h1, b_47_386, n1, u2, if_neg (fun h => h.1 h1)]
  · rw [if_neg h1]
    by_cases h2 : r = 1
    · by_cases h3 : im 177 k = 0
      · rw [b_47_367_t (hc := h2), b_47_373_t (c0 := e2) (hc := by rw [t2, u1]; exact h3), b_47_382, n1, if_pos ⟨h1, h2, h3⟩]
      · rw [b_47_367_t (hc := h2), b_47_373_f (c0 := e2) (hc := by rw [t2, u1]; exact h3), b_47_386, n1, u2, if_neg (fun h => h3 h.2.2)]
    · rw [b_47_367_f (hc := h2), b_47_386, n1, u2, if_neg (fun h => h2 h.2.1)]
theorem j_354 {B : zeB} {im : Nat → Nat → Int32} {lm : Nat → Nat → Int64} (k P : Nat) (s r w : Int32) (o4 o6 : Option Value) (hk : k < 60) (hP : P < 6) : zeRun 47 354 [some (.ref 170), some (.int (nn k)), some (.int (nn P)), some (.int s), o4, some (.int r), o6] [.int w, .int (nn P), .ref 180] (zk B im lm) = zeRun 47 63 [some (.ref 170), some (.int (nn (k + 1))), some (.int (nn P)), some (.int s), o4, some (.int r), o6] [] (zk B (zeU2 (zeU2 im 180 P (w + 1)) 170 13 (if ¬ 3 ≤ s ∧ r = 1 ∧ im 177 k = 0 then nn P else im 170 13)) lm) := by
  have e1 : zeInb (nn P) 6 = true := inb_nn _ _ (by omega) (by omega)
  have e2 : zeInb (nn k) 60 = true := inb_nn _ _ (by omega) (by omega)
  have t1 : Int32.toNatClampNeg (nn P) = P := tn_nn _ (by omega)
  have t2 : Int32.toNatClampNeg (nn k) = k := tn_nn _ (by omega)
  have n1 : nn k + 1 = nn (k + 1) := nn_addr k 1
  have u1 : zeU2 im 180 P (w + 1) 177 k = im 177 k := u2_a _ _ _ _ _ _ (by decide)
  have u2 : zeU2 im 180 P (w + 1) 170 13 = im 170 13 := u2_a _ _ _ _ _ _ (by decide)
  rw [b_47_354 (c0 := e1), t1]
  by_cases h1 : 3 ≤ s
  · rw [if_pos h1, b_47_386, n1, u2, if_neg (fun h => h.1 h1)]
  · rw [if_neg h1]
    by_cases h2 : r = 1
    · by_cases h3 : im 177 k = 0
      · rw [b_47_367_t (hc := h2), b_47_373_t (c0 := e2) (hc := by rw [t2, u1]; exact h3), b_47_382, n1, if_pos ⟨h1, h2, h3⟩]
      · rw [b_47_367_t (hc := h2), b_47_373_f (c0 := e2) (hc := by rw [t2, u1]; exact h3), b_47_386, n1, u2, if_neg (fun h => h3 h.2.2)]
    · rw [b_47_367_f (hc := h2), b_47_386, n1, u2, if_neg (fun h => h2 h.2.1)]
theorem zi_add (c : Prop) [Decidable c] (w : Int32) : (if c then w + 1 else w + 0) = w + (if c then 1 else 0) := by
  by_cases h : c
  · rw [if_pos h, if_pos h]
  · rw [if_neg h, if_neg h]
/-- from the wrong answers' number on -/
theorem j_340 {B : zeB} {im : Nat → Nat → Int32} {lm : Nat → Nat → Int64} (k P : Nat) (s r w : Int32) (o4 o6 : Option Value) (hk : k < 60) (hP : P < 6) : zeRun 47 340 [some (.ref 170), some (.int (nn k)), some (.int (nn P)), some (.int s), o4, some (.int r), o6] [.int w, .int (nn P), .ref 180] (zk B im lm) = zeRun 47 63 [some (.ref 170), some (.int (nn (k + 1))), some (.int (nn P)), some (.int s), o4, some (.int r), o6] [] (zk B (zeU2 (zeU2 im 180 P (w + (if r = 0 ∧ im 177 k = 0 then 1 else 0))) 170 13 (if ¬ 3 ≤ s ∧ r = 1 ∧ im 177 k = 0 then nn P else im 170 13)) lm) := by
  have e2 : zeInb (nn k) 60 = true := inb_nn _ _ (by omega) (by omega)
  have t2 : Int32.toNatClampNeg (nn k) = k := tn_nn _ (by omega)
  by_cases h1 : r = 0
  · by_cases h2 : im 177 k = 0
    · rw [b_47_340_t (hc := h1), b_47_345_t (c0 := e2) (hc := by rw [t2]; exact h2), j_354 k P s r w o4 o6 hk hP, if_pos (show r = 0 ∧ im 177 k = 0 from ⟨h1, h2⟩)]
    · rw [b_47_340_t (hc := h1), b_47_345_f (c0 := e2) (hc := by rw [t2]; exact h2), j_358 k P s r w o4 o6 hk hP, if_neg (show ¬ (r = 0 ∧ im 177 k = 0) from fun h => h2 h.2)]
  · rw [b_47_340_f (hc := h1), j_358 k P s r w o4 o6 hk hP, if_neg (show ¬ (r = 0 ∧ im 177 k = 0) from fun h => h1 h.1)]
def zfW (im : Nat → Nat → Int32) (k P : Nat) (s r v : Int32) : Nat → Nat → Int32 := zeU2 (zeU2 (zeU2 im 179 P v) 180 P (im 180 P + (if ¬ 4 ≤ s ∧ r = 0 ∧ im 177 k = 0 then 1 else 0))) 170 13 (if ¬ 3 ≤ s ∧ r = 1 ∧ im 177 k = 0 then nn P else im 170 13)
theorem j_325 {B : zeB} {im : Nat → Nat → Int32} {lm : Nat → Nat → Int64} (k P : Nat) (s r v : Int32) (o4 o6 : Option Value) (hk : k < 60) (hP : P < 6) : zeRun 47 325 [some (.ref 170), some (.int (nn k)), some (.int (nn P)), some (.int s), o4, some (.int r), o6] [.int v, .int (nn P), .ref 179] (zk B im lm) = zeRun 47 63 [some (.ref 170), some (.int (nn (k + 1))), some (.int (nn P)), some (.int s), o4, some (.int r), o6] [] (zk B (zfW im k P s r (v + 0)) lm) := by
  have e1 : zeInb (nn P) 6 = true := inb_nn _ _ (by omega) (by omega); have e2 : zeInb (nn k) 60 = true := inb_nn _ _ (by omega) (by omega); have t1 : Int32.toNatClampNeg (nn P) = P := tn_nn _ (by omega); have t2 : Int32.toNatClampNeg (nn k) = k := tn_nn _ (by omega)
  have u1 : zeU2 im 179 P (v + 0) 177 k = im 177 k := u2_a _ _ _ _ _ _ (by decide)
  have u2 : zeU2 im 179 P (v + 0) 170 13 = im 170 13 := u2_a _ _ _ _ _ _ (by decide)
  unfold zfW
  rw [b_47_325 (c0 := e1) (c1 := e1), t1]
  by_cases h1 : 4 ≤ s
  · rw [if_pos h1, j_358 k P s r _ o4 o6 hk hP, u1, u2, if_neg (show ¬ (¬ 4 ≤ s ∧ r = 0 ∧ im 177 k = 0) from fun h => h.1 h1)]
  · rw [if_neg h1, j_340 k P s r _ o4 o6 hk hP, u1, u2]
    simp only [h1, not_false_eq_true, true_and]
theorem j_321 {B : zeB} {im : Nat → Nat → Int32} {lm : Nat → Nat → Int64} (k P : Nat) (s r v : Int32) (o4 o6 : Option Value) (hk : k < 60) (hP : P < 6) : zeRun 47 321 [some (.ref 170), some (.int (nn k)), some (.int (nn P)), some (.int s), o4, some (.int r), o6] [.int v, .int (nn P), .ref 179] (zk B im lm) = zeRun 47 63 [some (.ref 170), some (.int (nn (k + 1))), some (.int (nn P)), some (.int s), o4, some (.int r), o6] [] (zk B (zfW im k P s r (v + 1)) lm) := by
  have e1 : zeInb (nn P) 6 = true := inb_nn _ _ (by omega) (by omega); have e2 : zeInb (nn k) 60 = true := inb_nn _ _ (by omega) (by omega); have t1 : Int32.toNatClampNeg (nn P) = P := tn_nn _ (by omega); have t2 : Int32.toNatClampNeg (nn k) = k := tn_nn _ (by omega)
  have u1 : zeU2 im 179 P (v + 1) 177 k = im 177 k := u2_a _ _ _ _ _ _ (by decide)
  have u2 : zeU2 im 179 P (v + 1) 170 13 = im 170 13 := u2_a _ _ _ _ _ _ (by decide)
  unfold zfW
  rw [b_47_321 (c0 := e1) (c1 := e1), t1]
  by_cases h1 : 4 ≤ s
  · rw [if_pos h1, j_358 k P s r _ o4 o6 hk hP, u1, u2, if_neg (show ¬ (¬ 4 ≤ s ∧ r = 0 ∧ im 177 k = 0) from fun h => h.1 h1)]
  · rw [if_neg h1, j_340 k P s r _ o4 o6 hk hP, u1, u2]
    simp only [h1, not_false_eq_true, true_and]
theorem j_306 {B : zeB} {im : Nat → Nat → Int32} {lm : Nat → Nat → Int64} (k P : Nat) (s r v : Int32) (o4 o6 : Option Value) (hk : k < 60) (hP : P < 6) : zeRun 47 306 [some (.ref 170), some (.int (nn k)), some (.int (nn P)), some (.int s), o4, some (.int r), o6] [.int v, .int (nn P), .ref 179] (zk B im lm) = zeRun 47 63 [some (.ref 170), some (.int (nn (k + 1))), some (.int (nn P)), some (.int s), o4, some (.int r), o6] [] (zk B (zfW im k P s r (v + (if r = 1 ∧ im 177 k = 0 then 1 else 0))) lm) := by
  have e1 : zeInb (nn P) 6 = true := inb_nn _ _ (by omega) (by omega); have e2 : zeInb (nn k) 60 = true := inb_nn _ _ (by omega) (by omega); have t1 : Int32.toNatClampNeg (nn P) = P := tn_nn _ (by omega); have t2 : Int32.toNatClampNeg (nn k) = k := tn_nn _ (by omega)
  by_cases h1 : r = 1
  · by_cases h2 : im 177 k = 0
    · rw [b_47_306_t (hc := h1), b_47_312_t (c0 := e2) (hc := by rw [t2]; exact h2), j_321 k P s r v o4 o6 hk hP, if_pos (show r = 1 ∧ im 177 k = 0 from ⟨h1, h2⟩)]
    · rw [b_47_306_t (hc := h1), b_47_312_f (c0 := e2) (hc := by rw [t2]; exact h2), j_325 k P s r v o4 o6 hk hP, if_neg (show ¬ (r = 1 ∧ im 177 k = 0) from fun h => h2 h.2)]
  · rw [b_47_306_f (hc := h1), j_325 k P s r v o4 o6 hk hP, if_neg (show ¬ (r = 1 ∧ im 177 k = 0) from fun h => h1 h.1)]
/-- from the corrections on: c what is added -/
def zfC (im : Nat → Nat → Int32) (k P : Nat) (s r v : Int32) : Nat → Nat → Int32 := zfW (zeU2 im 181 P v) k P s r (im 179 P + (if ¬ 4 ≤ s ∧ r = 1 ∧ im 177 k = 0 then 1 else 0))
theorem j_282 {B : zeB} {im : Nat → Nat → Int32} {lm : Nat → Nat → Int64} (k P : Nat) (s r v : Int32) (o4 o6 : Option Value) (hk : k < 60) (hP : P < 6) : zeRun 47 282 [some (.ref 170), some (.int (nn k)), some (.int (nn P)), some (.int s), o4, some (.int r), o6] [.int v, .int (nn P), .ref 181] (zk B im lm) = zeRun 47 63 [some (.ref 170), some (.int (nn (k + 1))), some (.int (nn P)), some (.int s), o4, some (.int r), o6] [] (zk B (zfC im k P s r (v + im 176 k)) lm) := by
  have e1 : zeInb (nn P) 6 = true := inb_nn _ _ (by omega) (by omega); have e2 : zeInb (nn k) 60 = true := inb_nn _ _ (by omega) (by omega); have t1 : Int32.toNatClampNeg (nn P) = P := tn_nn _ (by omega); have t2 : Int32.toNatClampNeg (nn k) = k := tn_nn _ (by omega)
  have u1 : zeU2 im 181 P (v + im 176 k) 177 k = im 177 k := u2_a _ _ _ _ _ _ (by decide)
  unfold zfC
  rw [b_47_282 (c0 := e2) (c1 := e1) (c2 := e1), t1, t2]
  by_cases h1 : 4 ≤ s
  · rw [if_pos h1, j_325 k P s r _ o4 o6 hk hP, if_neg (show ¬ (¬ 4 ≤ s ∧ r = 1 ∧ im 177 k = 0) from fun h => h.1 h1)]
  · rw [if_neg h1, j_306 k P s r _ o4 o6 hk hP, u1]
    simp only [h1, not_false_eq_true, true_and]
theorem j_291 {B : zeB} {im : Nat → Nat → Int32} {lm : Nat → Nat → Int64} (k P : Nat) (s r v : Int32) (o4 o6 : Option Value) (hk : k < 60) (hP : P < 6) : zeRun 47 291 [some (.ref 170), some (.int (nn k)), some (.int (nn P)), some (.int s), o4, some (.int r), o6] [.int v, .int (nn P), .ref 181] (zk B im lm) = zeRun 47 63 [some (.ref 170), some (.int (nn (k + 1))), some (.int (nn P)), some (.int s), o4, some (.int r), o6] [] (zk B (zfC im k P s r (v + 0)) lm) := by
  have e1 : zeInb (nn P) 6 = true := inb_nn _ _ (by omega) (by omega); have e2 : zeInb (nn k) 60 = true := inb_nn _ _ (by omega) (by omega); have t1 : Int32.toNatClampNeg (nn P) = P := tn_nn _ (by omega); have t2 : Int32.toNatClampNeg (nn k) = k := tn_nn _ (by omega)
  have u1 : zeU2 im 181 P (v + 0) 177 k = im 177 k := u2_a _ _ _ _ _ _ (by decide)
  unfold zfC
  rw [b_47_291 (c0 := e1) (c1 := e1), t1]
  by_cases h1 : 4 ≤ s
  · rw [if_pos h1, j_325 k P s r _ o4 o6 hk hP, if_neg (show ¬ (¬ 4 ≤ s ∧ r = 1 ∧ im 177 k = 0) from fun h => h.1 h1)]
  · rw [if_neg h1, j_306 k P s r _ o4 o6 hk hP, u1]
    simp only [h1, not_false_eq_true, true_and]
/-- from the score on: v the new one -/
def zfS (im : Nat → Nat → Int32) (k P : Nat) (s r v : Int32) : Nat → Nat → Int32 := zfC (zeU2 (zeU2 im 175 P v) 178 k v) k P s r (im 181 P + (if s = 4 then im 176 k else 0))
theorem j_240 {B : zeB} {im : Nat → Nat → Int32} {lm : Nat → Nat → Int64} (k P : Nat) (s r v : Int32) (o4 o6 : Option Value) (hk : k < 60) (hP : P < 6) : zeRun 47 240 [some (.ref 170), some (.int (nn k)), some (.int (nn P)), some (.int s), o4, some (.int r), o6] [.int v, .int (nn P), .ref 175] (zk B im lm) = zeRun 47 63 [some (.ref 170), some (.int (nn (k + 1))), some (.int (nn P)), some (.int s), o4, some (.int r), o6] [] (zk B (zfS im k P s r (v + -(im 176 k))) lm) := by
  have e1 : zeInb (nn P) 6 = true := inb_nn _ _ (by omega) (by omega); have e2 : zeInb (nn k) 60 = true := inb_nn _ _ (by omega) (by omega); have t1 : Int32.toNatClampNeg (nn P) = P := tn_nn _ (by omega); have t2 : Int32.toNatClampNeg (nn k) = k := tn_nn _ (by omega)
  unfold zfS
  rw [b_47_240 (c0 := e2) (c1 := e1) (c2 := e1) (c3 := e2) (c4 := e1), t1, t2, u2_s]
  by_cases h1 : s = 4
  · rw [if_pos h1, j_282 k P s r _ o4 o6 hk hP, if_pos h1, u2_a _ 178 _ _ 176 _ (by decide), u2_a _ 175 _ _ 176 _ (by decide)]
  · rw [if_neg h1, j_291 k P s r _ o4 o6 hk hP, if_neg h1]
theorem j_250 {B : zeB} {im : Nat → Nat → Int32} {lm : Nat → Nat → Int64} (k P : Nat) (s r v : Int32) (o4 o6 : Option Value) (hk : k < 60) (hP : P < 6) : zeRun 47 250 [some (.ref 170), some (.int (nn k)), some (.int (nn P)), some (.int s), o4, some (.int r), o6] [.int v, .int (nn P), .ref 175] (zk B im lm) = zeRun 47 63 [some (.ref 170), some (.int (nn (k + 1))), some (.int (nn P)), some (.int s), o4, some (.int r), o6] [] (zk B (zfS im k P s r (v + im 176 k)) lm) := by
  have e1 : zeInb (nn P) 6 = true := inb_nn _ _ (by omega) (by omega); have e2 : zeInb (nn k) 60 = true := inb_nn _ _ (by omega) (by omega); have t1 : Int32.toNatClampNeg (nn P) = P := tn_nn _ (by omega); have t2 : Int32.toNatClampNeg (nn k) = k := tn_nn _ (by omega)
  unfold zfS
  rw [b_47_250 (c0 := e2) (c1 := e1) (c2 := e1) (c3 := e2) (c4 := e1), t1, t2, u2_s]
  by_cases h1 : s = 4
  · rw [if_pos h1, j_282 k P s r _ o4 o6 hk hP, if_pos h1, u2_a _ 178 _ _ 176 _ (by decide), u2_a _ 175 _ _ 176 _ (by decide)]
  · rw [if_neg h1, j_291 k P s r _ o4 o6 hk hP, if_neg h1]
/-- from the amount on: a the amount -/
def zfA (im : Nat → Nat → Int32) (k P : Nat) (s r a : Int32) : Nat → Nat → Int32 := zfS (zeU2 im 176 k a) k P s r (im 175 P + (if r = 0 then -a else a))
theorem j_209 {B : zeB} {im : Nat → Nat → Int32} {lm : Nat → Nat → Int64} (k P : Nat) (s r t l : Int32) (hk : k < 60) (hP : P < 6) : zeRun 47 209 [some (.ref 170), some (.int (nn k)), some (.int (nn P)), some (.int s), some (.int t), some (.int r), some (.int l)] [.int (nn k), .ref 176] (zk B im lm) = zeRun 47 63 [some (.ref 170), some (.int (nn (k + 1))), some (.int (nn P)), some (.int s), some (.int t), some (.int r), some (.int l)] [] (zk B (zfA im k P s r 0) lm) := by
  have e1 : zeInb (nn P) 6 = true := inb_nn _ _ (by omega) (by omega); have e2 : zeInb (nn k) 60 = true := inb_nn _ _ (by omega) (by omega); have t1 : Int32.toNatClampNeg (nn P) = P := tn_nn _ (by omega); have t2 : Int32.toNatClampNeg (nn k) = k := tn_nn _ (by omega)
  unfold zfA
  rw [b_47_209 (c0 := e2) (c1 := e1), t1, t2]
  by_cases h1 : r = 0
  · rw [if_pos h1, j_240 k P s r _ _ _ hk hP, if_pos h1, u2_s]
  · rw [if_neg h1, j_250 k P s r _ _ _ hk hP, if_neg h1, u2_s]
theorem j_225 {B : zeB} {im : Nat → Nat → Int32} {lm : Nat → Nat → Int64} (k P : Nat) (s r t l : Int32) (hk : k < 60) (hP : P < 6) : zeRun 47 225 [some (.ref 170), some (.int (nn k)), some (.int (nn P)), some (.int s), some (.int t), some (.int r), some (.int l)] [.int (nn k), .ref 176] (zk B im lm) = zeRun 47 63 [some (.ref 170), some (.int (nn (k + 1))), some (.int (nn P)), some (.int s), some (.int t), some (.int r), some (.int l)] [] (zk B (zfA im k P s r l) lm) := by
  have e1 : zeInb (nn P) 6 = true := inb_nn _ _ (by omega) (by omega); have e2 : zeInb (nn k) 60 = true := inb_nn _ _ (by omega) (by omega); have t1 : Int32.toNatClampNeg (nn P) = P := tn_nn _ (by omega); have t2 : Int32.toNatClampNeg (nn k) = k := tn_nn _ (by omega)
  unfold zfA
  rw [b_47_225 (c0 := e2) (c1 := e1), t1, t2]
  by_cases h1 : r = 0
  · rw [if_pos h1, j_240 k P s r _ _ _ hk hP, if_pos h1, u2_s]
  · rw [if_neg h1, j_250 k P s r _ _ _ hk hP, if_neg h1, u2_s]
theorem j_220 {B : zeB} {im : Nat → Nat → Int32} {lm : Nat → Nat → Int64} (k P : Nat) (s r t l : Int32) (hk : k < 60) (hP : P < 6) : zeRun 47 220 [some (.ref 170), some (.int (nn k)), some (.int (nn P)), some (.int s), some (.int t), some (.int r), some (.int l)] [.int (nn k), .ref 176] (zk B im lm) = zeRun 47 63 [some (.ref 170), some (.int (nn (k + 1))), some (.int (nn P)), some (.int s), some (.int t), some (.int r), some (.int l)] [] (zk B (zfA im k P s r t) lm) := by
  have e1 : zeInb (nn P) 6 = true := inb_nn _ _ (by omega) (by omega); have e2 : zeInb (nn k) 60 = true := inb_nn _ _ (by omega) (by omega); have t1 : Int32.toNatClampNeg (nn P) = P := tn_nn _ (by omega); have t2 : Int32.toNatClampNeg (nn k) = k := tn_nn _ (by omega)
  unfold zfA
  rw [b_47_220 (c0 := e2) (c1 := e1), t1, t2]
  by_cases h1 : r = 0
  · rw [if_pos h1, j_240 k P s r _ _ _ hk hP, if_pos h1, u2_s]
  · rw [if_neg h1, j_250 k P s r _ _ _ hk hP, if_neg h1, u2_s]
theorem zb_ne {p : Prop} [Decidable p] : (zb p = 0) = ¬ p := zb_0 p
/-- from the void on: w whether it is void -/
theorem j_194 {B : zeB} {im : Nat → Nat → Int32} {lm : Nat → Nat → Int64} (k P : Nat) (s r t l : Int32) (w : Bool) (hk : k < 60) (hP : P < 6) : zeRun 47 194 [some (.ref 170), some (.int (nn k)), some (.int (nn P)), some (.int s), some (.int t), some (.int r), some (.int l)] [.int (zb (w = true)), .int (nn k), .ref 177] (zk B im lm) = zeRun 47 63 [some (.ref 170), some (.int (nn (k + 1))), some (.int (nn P)), some (.int s), some (.int t), some (.int r), some (.int l)] [] (zk B (zfA (zeU2 im 177 k (zb (w = true))) k P s r (if w = true then 0 else if l ≤ t then l else t)) lm) := by
  have e1 : zeInb (nn P) 6 = true := inb_nn _ _ (by omega) (by omega); have e2 : zeInb (nn k) 60 = true := inb_nn _ _ (by omega) (by omega); have t1 : Int32.toNatClampNeg (nn P) = P := tn_nn _ (by omega); have t2 : Int32.toNatClampNeg (nn k) = k := tn_nn _ (by omega)
  rw [b_47_194 (c0 := e2) (c1 := e2), t2, zb_nar, u2_s]
  by_cases h1 : w = true
  · rw [if_neg (fun h => (zb_0 (w = true)).mp h h1), j_209 k P s r t l hk hP, if_pos h1]
  · rw [if_pos ((zb_0 (w = true)).mpr h1), if_neg h1]
    by_cases h2 : l ≤ t
    · rw [b_47_213_t (hc := h2), j_225 k P s r t l hk hP, if_pos h2]
    · rw [b_47_213_f (hc := h2), j_220 k P s r t l hk hP, if_neg h2]
/-- the limit of entry k behind a score x -/
def lim (s t x : Int32) : Int32 := if s = 2 then (if x ≤ 500 then 500 else x) else if s = 3 then (if x ≤ 0 then 0 else x) else t
/-- player of entry k -/
def eP (R : Nat → Int32) (k : Nat) : Nat := (R (60 + 5 * k)).toNatClampNeg
/-- the amount of entry k behind a score x -/
def amS (R : Nat → Int32) (k : Nat) (x : Int32) : Int32 := if vd R k = true then 0 else if lim (R (60 + 5 * k + 1)) (R (60 + 5 * k + 3)) x ≤ R (60 + 5 * k + 3) then lim (R (60 + 5 * k + 1)) (R (60 + 5 * k + 3)) x else R (60 + 5 * k + 3)
/-- one entry of the replay -/
def zfE (im : Nat → Nat → Int32) (k : Nat) : Nat → Nat → Int32 := zfA (zeU2 im 177 k (zb (vd (im 171) k = true))) k (eP (im 171) k) (im 171 (60 + 5 * k + 1)) (im 171 (60 + 5 * k + 4)) (amS (im 171) k (im 175 (eP (im 171) k)))
theorem s_rp_step {B : zeB} {im : Nat → Nat → Int32} {lm : Nat → Nat → Int64} (k E : Nat) (o2 o3 o4 o5 o6 : Option Value) (hk : k < E) (hE : E ≤ 60) (hn : im 171 5 = nn E) (hp : im 171 (60 + 5 * k) = nn (eP (im 171) k)) (hP : eP (im 171) k < 6) : ∃ o2' o3' o4' o5' o6', zeRun 47 63 [some (.ref 170), some (.int (nn k)), o2, o3, o4, o5, o6] [] (zk B im lm) = zeRun 47 63 [some (.ref 170), some (.int (nn (k + 1))), o2', o3', o4', o5', o6'] [] (zk B (zfE im k) lm) := by
  have e1 : zeInb (nn (eP (im 171) k)) 6 = true := inb_nn _ _ (by omega) (by omega)
  have t1 : Int32.toNatClampNeg (nn (eP (im 171) k)) = eP (im 171) k := tn_nn _ (by omega)
  have h0 : ¬ (im 171 5 ≤ nn k) := by rw [hn, nn_le _ _ (by omega) (by omega)]; omega
  have a0 : zeInb (nn (60 + 5 * k)) 360 = true := inb_nn _ _ (by omega) (by omega)
  have a1 : zeInb (nn (60 + 5 * k) + 1) 360 = true := by rw [nn_addr]; exact inb_nn _ _ (by omega) (by omega)
  have a3 : zeInb (nn (60 + 5 * k) + 3) 360 = true := by rw [nn_addr]; exact inb_nn _ _ (by omega) (by omega)
  have a4 : zeInb (nn (60 + 5 * k) + 4) 360 = true := by rw [nn_addr]; exact inb_nn _ _ (by omega) (by omega)
  have b0 : Int32.toNatClampNeg (nn (60 + 5 * k)) = 60 + 5 * k := tn_nn _ (by omega)
  have b1 : Int32.toNatClampNeg (nn (60 + 5 * k) + 1) = 60 + 5 * k + 1 := by rw [nn_addr]; exact tn_nn _ (by omega)
  have b3 : Int32.toNatClampNeg (nn (60 + 5 * k) + 3) = 60 + 5 * k + 3 := by rw [nn_addr]; exact tn_nn _ (by omega)
  have b4 : Int32.toNatClampNeg (nn (60 + 5 * k) + 4) = 60 + 5 * k + 4 := by rw [nn_addr]; exact tn_nn _ (by omega)
  rw [b_47_63_f (hc := h0), b_47_73, s_at, zeBh_s, b_47_81 (c0 := a0), b0, s_at, zeBh_s, b_47_91 (c0 := a1), b1, s_at, zeBh_s, b_47_103 (c0 := a3), b3, s_at, zeBh_s, hp, b_47_116 (c0 := a4), b4]
  unfold zfE amS lim
  by_cases h2 : im 171 (60 + 5 * k + 1) = 2
  · rw [if_pos h2]
    simp only [if_pos h2]
    by_cases h5 : im 175 (eP (im 171) k) ≤ 500
    · rw [b_47_126_t (c0 := e1) (hc := by rw [t1]; exact h5), b_47_147, s_vd k (by omega), zeBh_s, j_194 _ _ _ _ _ _ _ (by omega) hP]
      simp only [if_pos h5]
      exact ⟨_, _, _, _, _, rfl⟩
    · rw [b_47_126_f (c0 := e1) (hc := by rw [t1]; exact h5), b_47_138 (c0 := e1), s_vd k (by omega), zeBh_s, t1, j_194 _ _ _ _ _ _ _ (by omega) hP]
      simp only [if_neg h5]
      exact ⟨_, _, _, _, _, rfl⟩
  · rw [if_neg h2]
    simp only [if_neg h2]
    by_cases h3 : im 171 (60 + 5 * k + 1) = 3
    · rw [b_47_153_t (hc := h3)]
      simp only [if_pos h3]
      by_cases h5 : im 175 (eP (im 171) k) ≤ 0
      · rw [b_47_158_t (c0 := e1) (hc := by rw [t1]; exact h5), b_47_176, s_vd k (by omega), zeBh_s, j_194 _ _ _ _ _ _ _ (by omega) hP]
        simp only [if_pos h5]
        exact ⟨_, _, _, _, _, rfl⟩
      · rw [b_47_158_f (c0 := e1) (hc := by rw [t1]; exact h5), b_47_167 (c0 := e1), s_vd k (by omega), zeBh_s, t1, j_194 _ _ _ _ _ _ _ (by omega) hP]
        simp only [if_neg h5]
        exact ⟨_, _, _, _, _, rfl⟩
    · rw [b_47_153_f (hc := h3), b_47_180, s_vd k (by omega), zeBh_s, j_194 _ _ _ _ _ _ _ (by omega) hP]
      simp only [if_neg h3]
      exact ⟨_, _, _, _, _, rfl⟩
