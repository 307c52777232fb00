/-! THE MODEL: the replay -/
theorem j_358 {B : zeB} {im : Nat → Nat → Int32} {lm : Nat → Nat → Int64} (k P : Nat) (s r w : Int32) (o4 o6 : Option Value) (hk : k < 60) (hP : P < 6) : zeRun 47 358 [some (.ref 170), some (.int (nn k)), some (.int (nn P)), some (.int s), o4, some (.int r), o6] [.int w, .int (nn P), .ref 180] (zk B im lm) = zeRun 47 63 [some (.ref 170), some (.int (nn (k + 1))), some (.int (nn P)), some (.int s), o4, some (.int r), o6] [] (zk B (zeU2 (zeU2 im 180 P (w + 0)) 170 13 (if ¬ 3 ≤ s ∧ r = 1 ∧ im 177 k = 0 then nn P else im 170 13)) lm) := by
  have e1 : zeInb (nn P) 6 = true := inb_nn _ _ (by omega) (by omega)
  have e2 : zeInb (nn k) 60 = true := inb_nn _ _ (by omega) (by omega)
  have t1 : Int32.toNatClampNeg (nn P) = P := tn_nn _ (by omega)
  have t2 : Int32.toNatClampNeg (nn k) = k := tn_nn _ (by omega)
  have n1 : nn k + 1 = nn (k + 1) := nn_addr k 1
  have u1 : zeU2 im 180 P (w + 0) 177 k = im 177 k := u2_a _ _ _ _ _ _ (by decide)
  have u2 : zeU2 im 180 P (w + 0) 170 13 = im 170 13 := u2_a _ _ _ _ _ _ (by decide)
  rw [b_47_358 (c0 := e1), t1]
  by_cases h1 : 3 ≤ s
  · rw [if_pos h1, b_47_386, n1, u2, if_neg (fun h => h.1 h1)]
  · rw [if_neg h1]
    by_cases h2 : r = 1
    · by_cases h3 : im 177 k = 0
      · rw [b_47_367_t (hc := h2), b_47_373_t (c0 := e2) (hc := by rw [t2, u1]; exact h3), b_47_382, n1, if_pos ⟨h1, h2, h3⟩]
      · rw [b_47_367_t (hc := h2), b_47_373_f (c0 := e2) (hc := by rw [t2, u1]; exact h3), b_47_386, n1, u2, if_neg (fun h => h3 h.2.2)]
    · rw [b_47_367_f (hc := h2), b_47_386, n1, u2, if_neg (fun h => h2 h.2.1)]
theorem j_354 {B : zeB} {im : Nat → Nat → Int32} {lm : Nat → Nat → Int64} (k P : Nat) (s r w : Int32) (o4 o6 : Option Value) (hk : k < 60) (hP : P < 6) : zeRun 47 354 [some (.ref 170), some (.int (nn k)), some (.int (nn P)), some (.int s), o4, some (.int r), o6] [.int w, .int (nn P), .ref 180] (zk B im lm) = zeRun 47 63 [some (.ref 170), some (.int (nn (k + 1))), some (.int (nn P)), some (.int s), o4, some (.int r), o6] [] (zk B (zeU2 (zeU2 im 180 P (w + 1)) 170 13 (if ¬ 3 ≤ s ∧ r = 1 ∧ im 177 k = 0 then nn P else im 170 13)) lm) := by
  have e1 : zeInb (nn P) 6 = true := inb_nn _ _ (by omega) (by omega)
  have e2 : zeInb (nn k) 60 = true := inb_nn _ _ (by omega) (by omega)
  have t1 : Int32.toNatClampNeg (nn P) = P := tn_nn _ (by omega)
  have t2 : Int32.toNatClampNeg (nn k) = k := tn_nn _ (by omega)
  have n1 : nn k + 1 = nn (k + 1) := nn_addr k 1
  have u1 : zeU2 im 180 P (w + 1) 177 k = im 177 k := u2_a _ _ _ _ _ _ (by decide)
  have u2 : zeU2 im 180 P (w + 1) 170 13 = im 170 13 := u2_a _ _ _ _ _ _ (by decide)
  rw [b_47_354 (c0 := e1), t1]
  by_cases h1 : 3 ≤ s
  · rw [if_pos h1, b_47_386, n1, u2, if_neg (fun h => h.1 h1)]
  · rw [if_neg h1]
    by_cases h2 : r = 1
    · by_cases h3 : im 177 k = 0
      · rw [b_47_367_t (hc := h2), b_47_373_t (c0 := e2) (hc := by rw [t2, u1]; exact h3), b_47_382, n1, if_pos ⟨h1, h2, h3⟩]
      · rw [b_47_367_t (hc := h2), b_47_373_f (c0 := e2) (hc := by rw [t2, u1]; exact h3), b_47_386, n1, u2, if_neg (fun h => h3 h.2.2)]
    · rw [b_47_367_f (hc := h2), b_47_386, n1, u2, if_neg (fun h => h2 h.2.1)]
theorem zi_add (c : Prop) [Decidable c] (w : Int32) : (if c then w + 1 else w + 0) = w + (if c then 1 else 0) := by
  by_cases h : c
  · rw [if_pos h, if_pos h]
  · rw [if_neg h, if_neg h]
/-- from the wrong answers' number on -/
theorem j_340 {B : zeB} {im : Nat → Nat → Int32} {lm : Nat → Nat → Int64} (k P : Nat) (s r w : Int32) (o4 o6 : Option Value) (hk : k < 60) (hP : P < 6) : zeRun 47 340 [some (.ref 170), some (.int (nn k)), some (.int (nn P)), some (.int s), o4, some (.int r), o6] [.int w, .int (nn P), .ref 180] (zk B im lm) = zeRun 47 63 [some (.ref 170), some (.int (nn (k + 1))), some (.int (nn P)), some (.int s), o4, some (.int r), o6] [] (zk B (zeU2 (zeU2 im 180 P (w + (if r = 0 ∧ im 177 k = 0 then 1 else 0))) 170 13 (if ¬ 3 ≤ s ∧ r = 1 ∧ im 177 k = 0 then nn P else im 170 13)) lm) := by
  have e2 : zeInb (nn k) 60 = true := inb_nn _ _ (by omega) (by omega)
  have t2 : Int32.toNatClampNeg (nn k) = k := tn_nn _ (by omega)
  by_cases h1 : r = 0
  · by_cases h2 : im 177 k = 0
    · rw [b_47_340_t (hc := h1), b_47_345_t (c0 := e2) (hc := by rw [t2]; exact h2), j_354 k P s r w o4 o6 hk hP, if_pos (show r = 0 ∧ im 177 k = 0 from ⟨h1, h2⟩)]
    · rw [b_47_340_t (hc := h1), b_47_345_f (c0 := e2) (hc := by rw [t2]; exact h2), j_358 k P s r w o4 o6 hk hP, if_neg (show ¬ (r = 0 ∧ im 177 k = 0) from fun h => h2 h.2)]
  · rw [b_47_340_f (hc := h1), j_358 k P s r w o4 o6 hk hP, if_neg (show ¬ (r = 0 ∧ im 177 k = 0) from fun h => h1 h.1)]
