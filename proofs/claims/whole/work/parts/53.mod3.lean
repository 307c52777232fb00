/-! THE MODEL: the replay as a whole -/
def dlt (r a : Int32) : Int32 := if r = 0 then -a else a
def zsc (R : Nat → Int32) : Nat → Nat → Int32
  | 0 => fun _ => 0
  | k + 1 => zeU1 (zsc R k) (eP R k) (zsc R k (eP R k) + dlt (R (60 + 5 * k + 4)) (amS R k (zsc R k (eP R k))))
def zam (R : Nat → Int32) (k : Nat) : Int32 := amS R k (zsc R k (eP R k))
def zco (R : Nat → Int32) : Nat → Nat → Int32
  | 0 => fun _ => 0
  | k + 1 => zeU1 (zco R k) (eP R k) (zco R k (eP R k) + (if R (60 + 5 * k + 1) = 4 then zam R k else 0))
def zrt (R : Nat → Int32) : Nat → Nat → Int32
  | 0 => fun _ => 0
  | k + 1 => zeU1 (zrt R k) (eP R k) (zrt R k (eP R k) + (if ¬ 4 ≤ R (60 + 5 * k + 1) ∧ R (60 + 5 * k + 4) = 1 ∧ ¬ vd R k = true then 1 else 0))
def zwr (R : Nat → Int32) : Nat → Nat → Int32
  | 0 => fun _ => 0
  | k + 1 => zeU1 (zwr R k) (eP R k) (zwr R k (eP R k) + (if ¬ 4 ≤ R (60 + 5 * k + 1) ∧ R (60 + 5 * k + 4) = 0 ∧ ¬ vd R k = true then 1 else 0))
def zct (R : Nat → Int32) (c0 : Int32) : Nat → Int32
  | 0 => c0
  | k + 1 => if ¬ 3 ≤ R (60 + 5 * k + 1) ∧ R (60 + 5 * k + 4) = 1 ∧ ¬ vd R k = true then nn (eP R k) else zct R c0 k
/-- memory im' behind k entries of the replay that began with im -/
def RpM (im im' : Nat → Nat → Int32) (c0 : Int32) (k : Nat) : Prop :=
  (∀ a j, (a < 175 ∨ 181 < a) → (a = 170 → j ≠ 13) → im' a j = im a j) ∧ im' 170 13 = zct (im 171) c0 k ∧
  (∀ q, q < 6 → im' 175 q = zsc (im 171) k q ∧ im' 179 q = zrt (im 171) k q ∧ im' 180 q = zwr (im 171) k q ∧ im' 181 q = zco (im 171) k q) ∧
  (∀ i, i < k → im' 176 i = zam (im 171) i ∧ im' 177 i = zb (vd (im 171) i = true) ∧ im' 178 i = zsc (im 171) (i + 1) (eP (im 171) i))
theorem zfE_e (im : Nat → Nat → Int32) (k : Nat) (P : Nat) (s r a v x : Int32) (w : Bool) (h1 : P = eP (im 171) k) (h2 : s = im 171 (60 + 5 * k + 1)) (h3 : r = im 171 (60 + 5 * k + 4)) (h4 : x = im 175 P) (h5 : a = amS (im 171) k x) (h6 : v = x + dlt r a) (h7 : w = vd (im 171) k) (b j : Nat) : zfE im k b j = if b = 177 ∧ j = k then zb (w = true) else if b = 176 ∧ j = k then a else if b = 175 ∧ j = P then v else if b = 178 ∧ j = k then v else if b = 181 ∧ j = P then im 181 P + (if s = 4 then a else 0) else if b = 179 ∧ j = P then im 179 P + (if ¬ 4 ≤ s ∧ r = 1 ∧ ¬ w = true then 1 else 0) else if b = 180 ∧ j = P then im 180 P + (if ¬ 4 ≤ s ∧ r = 0 ∧ ¬ w = true then 1 else 0) else if b = 170 ∧ j = 13 then (if ¬ 3 ≤ s ∧ r = 1 ∧ ¬ w = true then nn P else im 170 13) else im b j := by
  subst h1 h2 h3 h4 h5 h6 h7
  unfold zfE zfA zfS zfC zfW dlt
  simp only [u2_e, zb_0]
  by_cases g1 : b = 177
  · subst g1; simp
  by_cases g2 : b = 176
  · subst g2; simp
  by_cases g3 : b = 175
  · subst g3; simp
  by_cases g4 : b = 178
  · subst g4; simp
  by_cases g5 : b = 181
  · subst g5; simp
  by_cases g6 : b = 179
  · subst g6; simp [zb_0]
  by_cases g7 : b = 180
  · subst g7; simp [zb_0]
  by_cases g8 : b = 170
  · subst g8; simp [zb_0]
  · simp [g1, g2, g3, g4, g5, g6, g7, g8]
