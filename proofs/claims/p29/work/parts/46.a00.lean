/-! PURE FUNCTIONS of the memory, and what it is that the run does as they do -/
abbrev zI : Type := Nat → Nat → Int32
abbrev zJ : Type := Nat → Nat → Int64
abbrev zR : Type := Option (Int32 × zI × zJ)
def zCk (b : Bool) (x : zR) : zR := match b with
  | true => x
  | false => none
def zBd (x : zR) (k : Int32 → zI → zJ → zR) : zR := match x with
  | none => none
  | some (v, im, lm) => k v im lm
theorem zCk_t (x : zR) : zCk true x = x := rfl
theorem zBd_s (v : Int32) (im : zI) (lm : zJ) (k : Int32 → zI → zJ → zR) : zBd (some (v, im, lm)) k = k v im lm := rfl
def zVl : Nat → Int32 → Option Value
  | 0, _ => none
  | 1, v => some (.int v)
  | _ + 2, v => some (.ref (Int32.toNatClampNeg v))
def zL (B : zeB) (rt : Nat) (a : zR) (b : Option (Option Value × zeM)) : Prop := ∀ v im lm, a = some (v, im, lm) → b = some (zVl rt v, zk B im lm)
theorem zL_none {B : zeB} {rt : Nat} {b : Option (Option Value × zeM)} : zL B rt none b := by
  intro _ _ _ h
  cases h
theorem zL_eq {B : zeB} {rt : Nat} {a : zR} {b b' : Option (Option Value × zeM)} (h : b = b') (h2 : zL B rt a b') : zL B rt a b := h ▸ h2
theorem zL_ck {B : zeB} {rt : Nat} {c : Bool} {a : zR} {b : Option (Option Value × zeM)} (h : c = true → zL B rt a b) : zL B rt (zCk c a) b := by
  cases c with
  | true => exact h rfl
  | false => exact zL_none
theorem zL_ckt {B : zeB} {rt : Nat} {a : zR} {b : Option (Option Value × zeM)} (h : zL B rt a b) : zL B rt (zCk true a) b := h
theorem zL_bdp {B : zeB} {rt : Nat} {i pc : Nat} {L : zeLo} {st : List Value} {a : zR} {b r : Option (Option Value × zeM)} {e : Int32} {im : zI} {lm : zJ} (h : b = zeBh i pc L st r) (h1 : zL B 1 (some (e, im, lm)) r) (h2 : zL B rt a (zeRun i pc L (.int e :: st) (zk B im lm))) : zL B rt a b := by
  subst h
  rw [h1 e im lm rfl]
  exact h2
theorem zL_ret {B : zeB} {x : Int32} {im : zI} {lm : zJ} {b : Option (Option Value × zeM)} (h : b = some (some (.int x), zk B im lm)) : zL B 1 (some (x, im, lm)) b := by
  intro v im' lm' h2
  cases h2
  exact h
theorem zL_retv {B : zeB} {x : Int32} {im : zI} {lm : zJ} {b : Option (Option Value × zeM)} (h : b = some (none, zk B im lm)) : zL B 0 (some (x, im, lm)) b := by
  intro v im' lm' h2
  cases h2
  exact h
theorem zL_retr {B : zeB} {x : Int32} {r : Nat} {im : zI} {lm : zJ} {b : Option (Option Value × zeM)} (h : b = some (some (.ref r), zk B im lm)) (hx : Int32.toNatClampNeg x = r) : zL B 2 (some (x, im, lm)) b := by
  intro v im' lm' h2
  cases h2
  subst hx
  exact h
theorem zL_bdr {B : zeB} {rt : Nat} {i pc : Nat} {L : zeLo} {st : List Value} {x : zR} {k : Int32 → zI → zJ → zR} {b r : Option (Option Value × zeM)} (h : b = zeBh i pc L st r) (h1 : zL B 2 x r) (h2 : ∀ v im lm, zL B rt (k v im lm) (zeRun i pc L (.ref (Int32.toNatClampNeg v) :: st) (zk B im lm))) : zL B rt (zBd x k) b := by
  subst h
  cases x with
  | none => exact zL_none
  | some y =>
    obtain ⟨v, im, lm⟩ := y
    rw [h1 v im lm rfl]
    exact h2 v im lm
theorem zL_if {B : zeB} {rt : Nat} {c : Prop} [Decidable c] {a a' : zR} {b x y : Option (Option Value × zeM)} (h : b = if c then x else y) (h1 : c → zL B rt a x) (h2 : ¬ c → zL B rt a' y) : zL B rt (if c then a else a') b := by
  subst h
  by_cases hc : c
  · rw [if_pos hc, if_pos hc]; exact h1 hc
  · rw [if_neg hc, if_neg hc]; exact h2 hc
theorem zL_ifm {B : zeB} {rt : Nat} {c : Prop} [Decidable c] {a : zR} {b x y : Option (Option Value × zeM)} (h : b = if c then x else y) (h1 : c → zL B rt a x) (h2 : ¬ c → zL B rt a y) : zL B rt a b := by
  subst h
  by_cases hc : c
  · rw [if_pos hc]; exact h1 hc
  · rw [if_neg hc]; exact h2 hc
theorem zL_sw {B : zeB} {rt : Nat} {i t d : Nat} {x k : Int32} {l : List (Int32 × Nat)} {L : zeLo} {st : List Value} {μ : zeM} {a a' : zR} (h1 : x = k → zL B rt a (zeRun i t L st μ)) (h2 : ¬ x = k → zL B rt a' (zeRun i (zeSw x d l) L st μ)) : zL B rt (if x = k then a else a') (zeRun i (zeSw x d ((k, t) :: l)) L st μ) := by
  unfold zeSw
  by_cases hc : x = k
  · rw [if_pos hc, if_pos hc]; exact h1 hc
  · rw [if_neg hc, if_neg hc]; exact h2 hc
theorem zL_swm {B : zeB} {rt : Nat} {i t d : Nat} {x k : Int32} {l : List (Int32 × Nat)} {L : zeLo} {st : List Value} {μ : zeM} {a : zR} (h1 : x = k → zL B rt a (zeRun i t L st μ)) (h2 : ¬ x = k → zL B rt a (zeRun i (zeSw x d l) L st μ)) : zL B rt a (zeRun i (zeSw x d ((k, t) :: l)) L st μ) := by
  unfold zeSw
  by_cases hc : x = k
  · rw [if_pos hc]; exact h1 hc
  · rw [if_neg hc]; exact h2 hc
theorem zL_swd {B : zeB} {rt : Nat} {i d : Nat} {x : Int32} {L : zeLo} {st : List Value} {μ : zeM} {a : zR} (h1 : zL B rt a (zeRun i d L st μ)) : zL B rt a (zeRun i (zeSw x d []) L st μ) := h1
theorem zL_aa {B : zeB} {rt : Nat} {c : Prop} [Decidable c] {a a' : zR} {b : Option (Option Value × zeM)} (h1 : c → zL B rt a b) (h2 : ¬ c → zL B rt a' b) : zL B rt (if c then a else a') b := by
  by_cases hc : c
  · rw [if_pos hc]; exact h1 hc
  · rw [if_neg hc]; exact h2 hc
theorem zL_bd {B : zeB} {rt : Nat} {i pc : Nat} {L : zeLo} {st : List Value} {x : zR} {k : Int32 → zI → zJ → zR} {b r : Option (Option Value × zeM)} (h : b = zeBh i pc L st r) (h1 : zL B 1 x r) (h2 : ∀ v im lm, zL B rt (k v im lm) (zeRun i pc L (.int v :: st) (zk B im lm))) : zL B rt (zBd x k) b := by
  subst h
  cases x with
  | none => exact zL_none
  | some y =>
    obtain ⟨v, im, lm⟩ := y
    rw [h1 v im lm rfl]
    exact h2 v im lm
theorem zL_bdv {B : zeB} {rt : Nat} {i pc : Nat} {L : zeLo} {st : List Value} {x : zR} {k : Int32 → zI → zJ → zR} {b r : Option (Option Value × zeM)} (h : b = zeBh i pc L st r) (h1 : zL B 0 x r) (h2 : ∀ v im lm, zL B rt (k v im lm) (zeRun i pc L st (zk B im lm))) : zL B rt (zBd x k) b := by
  subst h
  cases x with
  | none => exact zL_none
  | some y =>
    obtain ⟨v, im, lm⟩ := y
    rw [h1 v im lm rfl]
    exact h2 v im lm
