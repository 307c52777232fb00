/-! THE MODEL: the replay, one entry -/
/-- entry k of row R is a steal that doesn't count: sort 1, and an answer to its clue before it, of sort 0 or 1, was right -/
def vdF (R : Nat → Int32) (k j : Nat) (a : Bool) : Bool := a || (!decide (2 ≤ R (60 + 5 * j + 1)) && (decide (R (60 + 5 * j + 2) = R (60 + 5 * k + 2)) && decide (R (60 + 5 * j + 4) = 1)))
def vd (R : Nat → Int32) (k : Nat) : Bool := decide (R (60 + 5 * k + 1) = 1) && zIt (vdF R k) k 0 false
/-- the limit of entry k behind a score x -/
def lim (s t x : Int32) : Int32 := if s = 2 then (if x ≤ 500 then 500 else x) else if s = 3 then (if x ≤ 0 then 0 else x) else t
/-- player of entry k -/
def eP (R : Nat → Int32) (k : Nat) : Nat := (R (60 + 5 * k)).toNatClampNeg
/-- the amount of entry k behind a score x -/
def amS (R : Nat → Int32) (k : Nat) (x : Int32) : Int32 := if vd R k = true then 0 else if lim (R (60 + 5 * k + 1)) (R (60 + 5 * k + 3)) x ≤ R (60 + 5 * k + 3) then lim (R (60 + 5 * k + 1)) (R (60 + 5 * k + 3)) x else R (60 + 5 * k + 3)
def dlt (r a : Int32) : Int32 := if r = 0 then -a else a
/-- what one entry writes: a its amount, w whether it is void -/
def zfX (im : zI) (k P : Nat) (s r a : Int32) (w : Bool) (b j : Nat) : Int32 := if b = 177 ∧ j = k then zb (w = true) else if b = 176 ∧ j = k then a else if b = 175 ∧ j = P then im 175 P + dlt r a else if b = 178 ∧ j = k then im 175 P + dlt r a else if b = 181 ∧ j = P then im 181 P + (if s = 4 then a else 0) else if b = 179 ∧ j = P then im 179 P + (if ¬ 4 ≤ s ∧ r = 1 ∧ ¬ w = true then 1 else 0) else if b = 180 ∧ j = P then im 180 P + (if ¬ 4 ≤ s ∧ r = 0 ∧ ¬ w = true then 1 else 0) else if b = 170 ∧ j = 13 then (if ¬ 3 ≤ s ∧ r = 1 ∧ ¬ w = true then nn P else im 170 13) else im b j
/-! THE MODEL: the replay as a whole -/
def zsc (R : Nat → Int32) : Nat → Nat → Int32
  | 0 => fun _ => 0
  | k + 1 => zeU1 (zsc R k) (eP R k) (zsc R k (eP R k) + dlt (R (60 + 5 * k + 4)) (amS R k (zsc R k (eP R k))))
def zam (R : Nat → Int32) (k : Nat) : Int32 := amS R k (zsc R k (eP R k))
def zco (R : Nat → Int32) : Nat → Nat → Int32
  | 0 => fun _ => 0
  | k + 1 => zeU1 (zco R k) (eP R k) (zco R k (eP R k) + (if R (60 + 5 * k + 1) = 4 then zam R k else 0))
def zrt (R : Nat → Int32) : Nat → Nat → Int32
  | 0 => fun _ => 0
  | k + 1 => zeU1 (zrt R k) (eP R k) (zrt R k (eP R k) + (if ¬ 4 ≤ R (60 + 5 * k + 1) ∧ R (60 + 5 * k + 4) = 1 ∧ ¬ vd R k = true then 1 else 0))
def zwr (R : Nat → Int32) : Nat → Nat → Int32
  | 0 => fun _ => 0
  | k + 1 => zeU1 (zwr R k) (eP R k) (zwr R k (eP R k) + (if ¬ 4 ≤ R (60 + 5 * k + 1) ∧ R (60 + 5 * k + 4) = 0 ∧ ¬ vd R k = true then 1 else 0))
def zct (R : Nat → Int32) (c0 : Int32) : Nat → Int32
  | 0 => c0
  | k + 1 => if ¬ 3 ≤ R (60 + 5 * k + 1) ∧ R (60 + 5 * k + 4) = 1 ∧ ¬ vd R k = true then nn (eP R k) else zct R c0 k
/-- memory im' behind k entries of the replay that began with im -/
def RpM (im im' : zI) (c0 : Int32) (k : Nat) : Prop :=
  (∀ a j, (a < 175 ∨ 181 < a) → (a = 170 → j ≠ 13) → im' a j = im a j) ∧ im' 170 13 = zct (im 171) c0 k ∧
  (∀ q, q < 6 → im' 175 q = zsc (im 171) k q ∧ im' 179 q = zrt (im 171) k q ∧ im' 180 q = zwr (im 171) k q ∧ im' 181 q = zco (im 171) k q) ∧
  (∀ i, i < k → im' 176 i = zam (im 171) i ∧ im' 177 i = zb (vd (im 171) i = true) ∧ im' 178 i = zsc (im 171) (i + 1) (eP (im 171) i))
theorem RpM_row {im im' : zI} {c0 : Int32} {k : Nat} (h : RpM im im' c0 k) : im' 171 = im 171 := by
  funext j; exact h.1 171 j (Or.inl (by decide)) (fun h => absurd h (by decide))
theorem RpM_step (im im' im2 : zI) (c0 : Int32) (k : Nat) (hP : eP (im 171) k < 6) (h : RpM im im' c0 k) (he : ∀ b j, im2 b j = zfX im' k (eP (im 171) k) (im 171 (60 + 5 * k + 1)) (im 171 (60 + 5 * k + 4)) (zam (im 171) k) (vd (im 171) k) b j) : RpM im im2 c0 (k + 1) := by
  obtain ⟨ha, hc, hq, hi⟩ := h
  obtain ⟨p1, p2, p3, p4⟩ := hq _ hP
  refine ⟨?_, ?_, ?_, ?_⟩
  · intro a j h1 h2
    rw [he]
    unfold zfX
    have g : ∀ c, 175 ≤ c → c ≤ 181 → ¬ (a = c) := fun c h3 h4 h5 => by omega
    simp only [g 177 (by decide) (by decide), g 176 (by decide) (by decide), g 175 (by decide) (by decide), g 178 (by decide) (by decide), g 181 (by decide) (by decide), g 179 (by decide) (by decide), g 180 (by decide) (by decide), false_and, if_false]
    rw [if_neg (fun h => h2 h.1 h.2)]
    exact ha a j h1 h2
  · rw [he]
    unfold zfX
    simp [zct, hc]
  · intro q hq6
    obtain ⟨h1, h2, h3, h4⟩ := hq q hq6
    refine ⟨?_, ?_, ?_, ?_⟩ <;> rw [he] <;> unfold zfX <;> by_cases g : q = eP (im 171) k <;> simp [g, zsc, zrt, zwr, zco, u1_s, u1_n, h1, h2, h3, h4, p1, p2, p3, p4, zam]
  · intro i hik
    by_cases g : i = k
    · subst g
      refine ⟨?_, ?_, ?_⟩ <;> rw [he] <;> unfold zfX <;> simp [zsc, u1_s, zam, p1]
    · have hi' := hi i (by omega)
      refine ⟨?_, ?_, ?_⟩ <;> rw [he] <;> unfold zfX <;> simp [g, hi']
/-- the log's players -/
def PlG (R : Nat → Int32) (E : Nat) : Prop := ∀ k, k < E → R (60 + 5 * k) = nn (eP R k) ∧ eP R k < 6