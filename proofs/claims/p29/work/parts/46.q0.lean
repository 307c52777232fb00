/-! ROWS OF INTS made behind the constructors: gn cells in all, those from 154 on rows of 6 ints; the functions of the law that make them, or answer a long -/
def gB (len gn : Nat) : zeB := (gn, 3690 + 6 * (gn - 154), fun a => cond (Nat.blt a (16 + gn)) 40 0, fun a => cond (Nat.blt a (16 + gn)) 6 0, 0, len, fun _ _ => none)
/-- r is such a row -/
def gC (gn r : Nat) : Bool := Nat.ble 170 r && Nat.blt r (16 + gn)
theorem g_kl {len gn r : Nat} (h : gC gn r = true) : zkK (gB len gn) r = 40 ∧ zkL (gB len gn) r = 6 := by
  unfold gC at h
  rw [Bool.and_eq_true] at h
  constructor
  · show cond (Nat.ble 170 r) (cond (Nat.blt r (16 + gn)) 40 0) (zeKs r) = 40
    rw [h.1, h.2]; rfl
  · show cond (Nat.ble 170 r) (cond (Nat.blt r (16 + gn)) 6 0) (zeLs len r) = 6
    rw [h.1, h.2]; rfl
theorem ze_st1 {i : Nat} {t : Nat → Option zeOp} (ht : zeTb i = t) {pc : Nat} {op : zeOp} (hp : t pc = some op) {L : zeLo} {st : List Value} {μ : zeM} {pc' : Nat} {L' : zeLo} {st' : List Value} {μ' : zeM} (h : op L st μ = some (.inl (pc', L', st', μ'))) : zeRun i pc L st μ = zeRun i pc' L' st' μ' := by
  rw [zeRun_eq i pc L st μ t ht, hp]
  show (match op L st μ with | none => none | some (.inl (pc', L', st', μ')) => zeRun i pc' L' st' μ' | some (.inr (.inl r)) => some r | some (.inr (.inr (j, as, pc', L', st', μ'))) => zeRun j 0 (zeEnt (zeNl j) as) [] μ' >>= fun r => zeRun i pc' L' (r.1.toList ++ st') r.2) = _
  rw [h]
theorem g_ld {i : Nat} {t : Nat → Option zeOp} (ht : zeTb i = t) {pc n : Nat} (hp : t pc = some (zoLd 40 n)) {len gn r : Nat} {x : Int32} {L : zeLo} {st : List Value} {im : zI} {lm : zJ} (c0 : gC gn r = true) (c1 : zeInb x 6 = true) : zeRun i pc L (.int x :: .ref r :: st) (zk (gB len gn) im lm) = zeRun i n L (.int (im r x.toNatClampNeg) :: st) (zk (gB len gn) im lm) := by
  obtain ⟨h1, h2⟩ := g_kl (len := len) c0
  refine ze_st1 ht hp ?_
  show cond (Nat.beq (zkK (gB len gn) r) 40) (zeNx n L (.int (im r x.toNatClampNeg) :: st) (zeCk (zeInb x (zkL (gB len gn) r)) (zk (gB len gn) im lm))) none = _
  rw [h1, h2, c1]; rfl
theorem g_st {i : Nat} {t : Nat → Option zeOp} (ht : zeTb i = t) {pc n : Nat} (hp : t pc = some (zoSt 40 n)) {len gn r : Nat} {x v : Int32} {L : zeLo} {st : List Value} {im : zI} {lm : zJ} (c0 : gC gn r = true) (c1 : zeInb x 6 = true) : zeRun i pc L (.int v :: .int x :: .ref r :: st) (zk (gB len gn) im lm) = zeRun i n L st (zk (gB len gn) (zeU2 im r x.toNatClampNeg v) lm) := by
  obtain ⟨h1, h2⟩ := g_kl (len := len) c0
  refine ze_st1 ht hp ?_
  show cond (Nat.beq (zkK (gB len gn) r) 40) (zeNx n L st (zeCk (zeInb x (zkL (gB len gn) r)) (zk (gB len gn) (zeU2 im r x.toNatClampNeg v) lm))) none = _
  rw [h1, h2, c1]; rfl
theorem g_ble_t {a b : Nat} (h : a ≤ b) : Nat.ble a b = true := Nat.ble_eq.mpr h
theorem g_ble_f {a b : Nat} (h : b < a) : Nat.ble a b = false := by
  cases hq : Nat.ble a b with
  | false => rfl
  | true => have := Nat.ble_eq.mp hq; omega
theorem g_zk {len gn : Nat} (hn : 154 ≤ gn) (im : zI) (lm : zJ) : zeNew 40 6 6 (zk (gB len gn) im lm) = zk (gB len (gn + 1)) (zeU1 im (16 + gn) (fun _ => 0)) (zeU1 lm (16 + gn) (fun _ => 0)) := by
  have e1 : zeU1 (zkK (gB len gn)) (16 + gn) 40 = zkK (gB len (gn + 1)) := by
    funext a
    show (if a = 16 + gn then 40 else cond (Nat.ble 170 a) (cond (Nat.blt a (16 + gn)) 40 0) (zeKs a)) = cond (Nat.ble 170 a) (cond (Nat.blt a (16 + (gn + 1))) 40 0) (zeKs a)
    by_cases g : a = 16 + gn
    · subst g; rw [if_pos rfl, g_ble_t (by omega), show Nat.blt (16 + gn) (16 + (gn + 1)) = true from g_ble_t (by omega)]; rfl
    · rw [if_neg g]
      by_cases g2 : a < 16 + gn
      · rw [show Nat.blt a (16 + gn) = true from g_ble_t (by omega), show Nat.blt a (16 + (gn + 1)) = true from g_ble_t (by omega)]
      · rw [show Nat.blt a (16 + gn) = false from g_ble_f (by omega), show Nat.blt a (16 + (gn + 1)) = false from g_ble_f (by omega)]
  have e2 : zeU1 (zkL (gB len gn)) (16 + gn) 6 = zkL (gB len (gn + 1)) := by
    funext a
    show (if a = 16 + gn then 6 else cond (Nat.ble 170 a) (cond (Nat.blt a (16 + gn)) 6 0) (zeLs len a)) = cond (Nat.ble 170 a) (cond (Nat.blt a (16 + (gn + 1))) 6 0) (zeLs len a)
    by_cases g : a = 16 + gn
    · subst g; rw [if_pos rfl, g_ble_t (by omega), show Nat.blt (16 + gn) (16 + (gn + 1)) = true from g_ble_t (by omega)]; rfl
    · rw [if_neg g]
      by_cases g2 : a < 16 + gn
      · rw [show Nat.blt a (16 + gn) = true from g_ble_t (by omega), show Nat.blt a (16 + (gn + 1)) = true from g_ble_t (by omega)]
      · rw [show Nat.blt a (16 + gn) = false from g_ble_f (by omega), show Nat.blt a (16 + (gn + 1)) = false from g_ble_f (by omega)]
  have e3 : zeU1 (zkR (gB len gn)) (16 + gn) (fun _ => none) = zkR (gB len (gn + 1)) := by
    funext a
    show (if a = 16 + gn then (fun _ => none) else cond (Nat.ble 170 a) (fun _ => none) (zeRs 0 a)) = cond (Nat.ble 170 a) (fun _ => none) (zeRs 0 a)
    by_cases g : a = 16 + gn
    · subst g; rw [if_pos rfl, g_ble_t (by omega)]; rfl
    · rw [if_neg g]
  show (true, gn + 1, 3690 + 6 * (gn - 154) + 6, zeU1 (zkK (gB len gn)) (16 + gn) 40, zeU1 (zkL (gB len gn)) (16 + gn) 6, zeU1 (zkR (gB len gn)) (16 + gn) (fun _ => none), zeU1 im (16 + gn) (fun _ => 0), zeU1 lm (16 + gn) (fun _ => 0)) = _
  rw [e1, e2, e3, show 3690 + 6 * (gn - 154) + 6 = 3690 + 6 * (gn + 1 - 154) by omega]; rfl
theorem g_new {i : Nat} {t : Nat → Option zeOp} (ht : zeTb i = t) {pc n n2 : Nat} (hp : t pc = some (zoIc 6 n)) (hp2 : t n = some (zoNewa 40 n2)) {len gn : Nat} {L : zeLo} {st : List Value} {im : zI} {lm : zJ} (c0 : Nat.ble 154 gn = true) : zeRun i pc L st (zk (gB len gn) im lm) = zeRun i n2 L (.ref (16 + gn) :: st) (zk (gB len (gn + 1)) (zeU1 im (16 + gn) (fun _ => 0)) (zeU1 lm (16 + gn) (fun _ => 0))) := by
  refine (ze_st1 ht hp rfl).trans (ze_st1 ht hp2 ?_)
  rw [← g_zk (Nat.ble_eq.mp c0) im lm]
  rfl
abbrev zRn : Type := Option ((Int32 × Nat) × zI × zJ)
abbrev zRj : Type := Option (Int64 × zI × zJ)
def zCkn (b : Bool) (x : zRn) : zRn := match b with
  | true => x
  | false => none
theorem zCkn_t (x : zRn) : zCkn true x = x := rfl
/-- a call of a method that makes no row -/
def zBp (gn : Nat) (x : zR) (k : Int32 → zI → zJ → zRn) : zRn := match x with
  | none => none
  | some (v, im, lm) => k v im lm
theorem zBp_s (gn : Nat) (v : Int32) (im : zI) (lm : zJ) (k : Int32 → zI → zJ → zRn) : zBp gn (some (v, im, lm)) k = k v im lm := rfl
def zBn (x : zRn) (k : Int32 → Nat → zI → zJ → zRn) : zRn := match x with
  | none => none
  | some ((v, n), im, lm) => k v n im lm
theorem zBn_s (v : Int32) (n : Nat) (im : zI) (lm : zJ) (k : Int32 → Nat → zI → zJ → zRn) : zBn (some ((v, n), im, lm)) k = k v n im lm := rfl
def zBJ (gn : Nat) (x : zRj) (k : Int64 → zI → zJ → zRn) : zRn := match x with
  | none => none
  | some (v, im, lm) => k v im lm
theorem zBJ_s (gn : Nat) (v : Int64) (im : zI) (lm : zJ) (k : Int64 → zI → zJ → zRn) : zBJ gn (some (v, im, lm)) k = k v im lm := rfl
def zLn (len : Nat) (a : zRn) (b : Option (Option Value × zeM)) : Prop := ∀ v n im lm, a = some ((v, n), im, lm) → b = some (some (.int v), zk (gB len n) im lm)
def zLj (B : zeB) (a : zRj) (b : Option (Option Value × zeM)) : Prop := ∀ v im lm, a = some (v, im, lm) → b = some (some (.long v), zk B im lm)
theorem zLn_none {len : Nat} {b : Option (Option Value × zeM)} : zLn len none b := by
  intro _ _ _ _ h
  cases h
theorem zLn_eq {len : Nat} {a : zRn} {b b' : Option (Option Value × zeM)} (h : b = b') (h2 : zLn len a b') : zLn len a b := h ▸ h2
theorem zLn_ck {len : Nat} {c : Bool} {a : zRn} {b : Option (Option Value × zeM)} (h : c = true → zLn len a b) : zLn len (zCkn c a) b := by
  cases c with
  | true => exact h rfl
  | false => exact zLn_none
theorem zLn_ckt {len : Nat} {a : zRn} {b : Option (Option Value × zeM)} (h : zLn len a b) : zLn len (zCkn true a) b := h
theorem zLn_ret {len n : Nat} {x : Int32} {im : zI} {lm : zJ} {b : Option (Option Value × zeM)} (h : b = some (some (.int x), zk (gB len n) im lm)) : zLn len (some ((x, n), im, lm)) b := by
  intro v n' im' lm' h2
  cases h2
  exact h
theorem zLn_if {len : Nat} {c : Prop} [Decidable c] {a a' : zRn} {b x y : Option (Option Value × zeM)} (h : b = if c then x else y) (h1 : c → zLn len a x) (h2 : ¬ c → zLn len a' y) : zLn len (if c then a else a') b := by
  subst h
  by_cases hc : c
  · rw [if_pos hc, if_pos hc]; exact h1 hc
  · rw [if_neg hc, if_neg hc]; exact h2 hc
theorem zLn_ifm {len : Nat} {c : Prop} [Decidable c] {a : zRn} {b x y : Option (Option Value × zeM)} (h : b = if c then x else y) (h1 : c → zLn len a x) (h2 : ¬ c → zLn len a y) : zLn len a b := by
  subst h
  by_cases hc : c
  · rw [if_pos hc]; exact h1 hc
  · rw [if_neg hc]; exact h2 hc
theorem zLn_bdp {len i pc : Nat} {B : zeB} {L : zeLo} {st : List Value} {a : zRn} {b r : Option (Option Value × zeM)} {e : Int32} {im : zI} {lm : zJ} (h : b = zeBh i pc L st r) (h1 : zL B 1 (some (e, im, lm)) r) (h2 : zLn len a (zeRun i pc L (.int e :: st) (zk B im lm))) : zLn len a b := by
  subst h
  rw [h1 e im lm rfl]
  exact h2
theorem zLn_bd {len gn i pc : Nat} {B : zeB} {L : zeLo} {st : List Value} {x : zR} {k : Int32 → zI → zJ → zRn} {b r : Option (Option Value × zeM)} (h : b = zeBh i pc L st r) (h1 : zL B 1 x r) (h2 : ∀ v im lm, zLn len (k v im lm) (zeRun i pc L (.int v :: st) (zk B im lm))) : zLn len (zBp gn x k) b := by
  subst h
  cases x with
  | none => exact zLn_none
  | some y =>
    obtain ⟨v, im, lm⟩ := y
    rw [h1 v im lm rfl]
    exact h2 v im lm
theorem zLn_bdn {len i pc : Nat} {L : zeLo} {st : List Value} {x : zRn} {k : Int32 → Nat → zI → zJ → zRn} {b r : Option (Option Value × zeM)} (h : b = zeBh i pc L st r) (h1 : zLn len x r) (h2 : ∀ v n im lm, zLn len (k v n im lm) (zeRun i pc L (.int v :: st) (zk (gB len n) im lm))) : zLn len (zBn x k) b := by
  subst h
  cases x with
  | none => exact zLn_none
  | some y =>
    obtain ⟨⟨v, n⟩, im, lm⟩ := y
    rw [h1 v n im lm rfl]
    exact h2 v n im lm
theorem zLn_bdJ {len gn i pc : Nat} {B : zeB} {L : zeLo} {st : List Value} {x : zRj} {k : Int64 → zI → zJ → zRn} {b r : Option (Option Value × zeM)} (h : b = zeBh i pc L st r) (h1 : zLj B x r) (h2 : ∀ v im lm, zLn len (k v im lm) (zeRun i pc L (.long v :: st) (zk B im lm))) : zLn len (zBJ gn x k) b := by
  subst h
  cases x with
  | none => exact zLn_none
  | some y =>
    obtain ⟨v, im, lm⟩ := y
    rw [h1 v im lm rfl]
    exact h2 v im lm
/-! the digest's half: an answer that is a long -/
def zCkj (b : Bool) (x : zRj) : zRj := match b with
  | true => x
  | false => none
def zBdj (x : zR) (k : Int32 → zI → zJ → zRj) : zRj := match x with
  | none => none
  | some (v, im, lm) => k v im lm
theorem zBdj_s (v : Int32) (im : zI) (lm : zJ) (k : Int32 → zI → zJ → zRj) : zBdj (some (v, im, lm)) k = k v im lm := rfl
theorem zLj_none {B : zeB} {b : Option (Option Value × zeM)} : zLj B none b := by
  intro _ _ _ h
  cases h
theorem zLj_eq {B : zeB} {a : zRj} {b b' : Option (Option Value × zeM)} (h : b = b') (h2 : zLj B a b') : zLj B a b := h ▸ h2
theorem zLj_ret {B : zeB} {x : Int64} {im : zI} {lm : zJ} {b : Option (Option Value × zeM)} (h : b = some (some (.long x), zk B im lm)) : zLj B (some (x, im, lm)) b := by
  intro v im' lm' h2
  cases h2
  exact h
theorem zLj_if {B : zeB} {c : Prop} [Decidable c] {a a' : zRj} {b x y : Option (Option Value × zeM)} (h : b = if c then x else y) (h1 : c → zLj B a x) (h2 : ¬ c → zLj B a' y) : zLj B (if c then a else a') b := by
  subst h
  by_cases hc : c
  · rw [if_pos hc, if_pos hc]; exact h1 hc
  · rw [if_neg hc, if_neg hc]; exact h2 hc
theorem zLj_ifm {B : zeB} {c : Prop} [Decidable c] {a : zRj} {b x y : Option (Option Value × zeM)} (h : b = if c then x else y) (h1 : c → zLj B a x) (h2 : ¬ c → zLj B a y) : zLj B a b := by
  subst h
  by_cases hc : c
  · rw [if_pos hc]; exact h1 hc
  · rw [if_neg hc]; exact h2 hc
theorem zLj_bd {B : zeB} {i pc : Nat} {L : zeLo} {st : List Value} {x : zR} {k : Int32 → zI → zJ → zRj} {b r : Option (Option Value × zeM)} (h : b = zeBh i pc L st r) (h1 : zL B 1 x r) (h2 : ∀ v im lm, zLj B (k v im lm) (zeRun i pc L (.int v :: st) (zk B im lm))) : zLj B (zBdj x k) b := by
  subst h
  cases x with
  | none => exact zLj_none
  | some y =>
    obtain ⟨v, im, lm⟩ := y
    rw [h1 v im lm rfl]
    exact h2 v im lm
/-! a cell of the script -/
def m_186 (len : Nat) (k : Int32) (im : zI) (lm : zJ) : zR :=
    zCk (if Int32.ofNat len ≤ k then true else zeInb k len) <|
    some (if Int32.ofNat len ≤ k then 2270021 * k + 1031 else im 0 (Int32.toNatClampNeg k), im, lm)
theorem d_186_0 {B : zeB} {im : Nat → Nat → Int32} {lm : Nat → Nat → Int64} (l1 : Int32)  : zeRun 186 0 [some (.ref 0), some (.int l1)] [] (zk B im lm) = if (Int32.ofNat (zeB.len B)) ≤ l1 then zeRun 186 12 [some (.ref 0), some (.int l1)] [] (zk B im lm) else zeRun 186 6 [some (.ref 0), some (.int l1)] [] (zk B im lm) := ze_if (ok := true) rfl 4 rfl rfl
theorem d_186_12 {B : zeB} {im : Nat → Nat → Int32} {lm : Nat → Nat → Int64} (o0 : Option Value) (l1 : Int32)  : zeRun 186 12 [o0, some (.int l1)] [] (zk B im lm) = some (some (.int ((2270021 * l1) + 1031)), (zk B im lm)) := ze_ret (ok := true) rfl 6 rfl rfl
theorem d_186_6 {B : zeB} {im : Nat → Nat → Int32} {lm : Nat → Nat → Int64} (l1 : Int32) (c0 : zeInb l1 (zeB.len B) = true) : zeRun 186 6 [some (.ref 0), some (.int l1)] [] (zk B im lm) = some (some (.int (im 0 (Int32.toNatClampNeg l1))), (zk B im lm)) := ze_ret (ok := (zeInb l1 (zeB.len B) && true)) rfl 5 rfl (zeA2 c0 rfl)
theorem m_186_ok {len : Nat} {B : zeB} (hB : B.len = len) (l1 : Int32) (im : zI) (lm : zJ) : zL B 1 (m_186 len l1 im lm) (zeRun 186 0 [some (.ref 0), some (.int l1)] [] (zk B im lm)) := by
  subst hB
  unfold m_186
  refine zL_ifm (d_186_0 _) (fun h => ?_) (fun h => ?_)
  · repeat rw [if_pos h]
    refine zL_ckt ?_
    exact zL_ret (d_186_12 _ _)
  · repeat rw [if_neg h]
    refine zL_ck fun c1 => ?_
    exact zL_ret (d_186_6 _ c1)
theorem m_186_okn {len gn : Nat} (l1 : Int32) (im : zI) (lm : zJ) : zL (gB len gn) 1 (m_186 len l1 im lm) (zeRun 186 0 [some (.ref 0), some (.int l1)] [] (zk (gB len gn) im lm)) := m_186_ok (B := gB len gn) rfl l1 im lm
/-! L_digest -/
theorem d_192_0 {B : zeB} {im : Nat → Nat → Int32} {lm : Nat → Nat → Int64} (o1 : Option Value) (o2 : Option Value) (o3 : Option Value) (o4 : Option Value)  : zeRun 192 0 [some (.ref 16), o1, o2, o3, o4] [] (zk B im lm) = zeRun 192 6 [some (.ref 16), some (.long 41), none, some (.int 0), o4] [] (zk B im lm) := ze_go (ok := true) rfl 4 rfl rfl
theorem d_192_6 {B : zeB} {im : Nat → Nat → Int32} {lm : Nat → Nat → Int64} (l1 : Int64) (l3 : Int32) (o4 : Option Value)  : zeRun 192 6 [some (.ref 16), some (.long l1), none, some (.int l3), o4] [] (zk B im lm) = if 15 ≤ l3 then zeRun 192 53 [some (.ref 16), some (.long l1), none, some (.int l3), o4] [] (zk B im lm) else zeRun 192 12 [some (.ref 16), some (.long l1), none, some (.int l3), o4] [] (zk B im lm) := ze_if (ok := true) rfl 3 rfl rfl
theorem d_192_53 {B : zeB} {im : Nat → Nat → Int32} {lm : Nat → Nat → Int64} (l1 : Int64) (o3 : Option Value) (o4 : Option Value)  : zeRun 192 53 [some (.ref 16), some (.long l1), none, o3, o4] [] (zk B im lm) = zeRun 192 55 [some (.ref 16), some (.long l1), none, some (.int 0), o4] [] (zk B im lm) := ze_go (ok := true) rfl 2 rfl rfl
theorem d_192_12 {B : zeB} {im : Nat → Nat → Int32} {lm : Nat → Nat → Int64} (l1 : Int64) (l3 : Int32) (o4 : Option Value)  : zeRun 192 12 [some (.ref 16), some (.long l1), none, some (.int l3), o4] [] (zk B im lm) = if l3 = 11 then zeRun 192 35 [some (.ref 16), some (.long l1), none, some (.int l3), o4] [.long (31 * l1)] (zk B im lm) else zeRun 192 23 [some (.ref 16), some (.long l1), none, some (.int l3), o4] [.long (31 * l1)] (zk B im lm) := ze_if (ok := true) rfl 6 rfl rfl
theorem d_192_23 {B : zeB} {im : Nat → Nat → Int32} {lm : Nat → Nat → Int64} (o1 : Option Value) (o2 : Option Value) (l3 : Int32) (o4 : Option Value) (s0 : Int64)  : zeRun 192 23 [some (.ref 16), o1, o2, some (.int l3), o4] [.long s0] (zk B im lm) = if l3 = 12 then zeRun 192 35 [some (.ref 16), o1, o2, some (.int l3), o4] [.long s0] (zk B im lm) else zeRun 192 29 [some (.ref 16), o1, o2, some (.int l3), o4] [.long s0] (zk B im lm) := ze_if (ok := true) rfl 3 rfl rfl
theorem d_192_29 {B : zeB} {im : Nat → Nat → Int32} {lm : Nat → Nat → Int64} (o1 : Option Value) (o2 : Option Value) (l3 : Int32) (o4 : Option Value) (s0 : Int64)  : zeRun 192 29 [some (.ref 16), o1, o2, some (.int l3), o4] [.long s0] (zk B im lm) = if l3 = 13 then zeRun 192 35 [some (.ref 16), o1, o2, some (.int l3), o4] [.long s0] (zk B im lm) else zeRun 192 39 [some (.ref 16), o1, o2, some (.int l3), o4] [.long s0] (zk B im lm) := ze_if (ok := true) rfl 3 rfl rfl
theorem d_192_39 {B : zeB} {im : Nat → Nat → Int32} {lm : Nat → Nat → Int64} (o1 : Option Value) (o2 : Option Value) (l3 : Int32) (o4 : Option Value) (s0 : Int64)  : zeRun 192 39 [some (.ref 16), o1, o2, some (.int l3), o4] [.long s0] (zk B im lm) = zeBh 192 44 [some (.ref 16), o1, o2, some (.int l3), o4] [.long s0] (zeRun 177 0 [some (.ref 16), some (.int l3)] [] (zk B im lm)) := ze_call (ok := true) rfl 3 rfl rfl rfl
theorem d_192_44 {B : zeB} {im : Nat → Nat → Int32} {lm : Nat → Nat → Int64} (o1 : Option Value) (o2 : Option Value) (l3 : Int32) (o4 : Option Value) (s0 : Int64) (s1 : Int32)  : zeRun 192 44 [some (.ref 16), o1, o2, some (.int l3), o4] [.int s1, .long s0] (zk B im lm) = zeRun 192 6 [some (.ref 16), some (.long (s0 + (Int32.toInt64 s1))), none, some (.int (l3 + 1)), o4] [] (zk B im lm) := ze_go (ok := true) rfl 5 rfl rfl
theorem d_192_35 {B : zeB} {im : Nat → Nat → Int32} {lm : Nat → Nat → Int64} (o1 : Option Value) (o2 : Option Value) (l3 : Int32) (o4 : Option Value) (s0 : Int64)  : zeRun 192 35 [some (.ref 16), o1, o2, some (.int l3), o4] [.long s0] (zk B im lm) = zeRun 192 6 [some (.ref 16), some (.long (s0 + (Int32.toInt64 0))), none, some (.int (l3 + 1)), o4] [] (zk B im lm) := ze_go (ok := true) rfl 7 rfl rfl
theorem d_192_55 {B : zeB} {im : Nat → Nat → Int32} {lm : Nat → Nat → Int64} (l1 : Int64) (l3 : Int32) (o4 : Option Value)  : zeRun 192 55 [some (.ref 16), some (.long l1), none, some (.int l3), o4] [] (zk B im lm) = zeBh 192 61 [some (.ref 16), some (.long l1), none, some (.int l3), o4] [.int l3] (zeRun 177 0 [some (.ref 16), some (.int 1)] [] (zk B im lm)) := ze_call (ok := true) rfl 4 rfl rfl rfl
theorem d_192_61 {B : zeB} {im : Nat → Nat → Int32} {lm : Nat → Nat → Int64} (l1 : Int64) (l3 : Int32) (o4 : Option Value) (s0 : Int32) (s1 : Int32)  : zeRun 192 61 [some (.ref 16), some (.long l1), none, some (.int l3), o4] [.int s1, .int s0] (zk B im lm) = if s1 ≤ s0 then zeRun 192 101 [some (.ref 16), some (.long l1), none, some (.int l3), o4] [] (zk B im lm) else zeRun 192 64 [some (.ref 16), some (.long l1), none, some (.int l3), o4] [] (zk B im lm) := ze_if (ok := true) rfl 1 rfl rfl
theorem d_192_101 {B : zeB} {im : Nat → Nat → Int32} {lm : Nat → Nat → Int64} (l1 : Int64) (o3 : Option Value) (o4 : Option Value)  : zeRun 192 101 [some (.ref 16), some (.long l1), none, o3, o4] [] (zk B im lm) = zeRun 192 103 [some (.ref 16), some (.long l1), none, some (.int 0), o4] [] (zk B im lm) := ze_go (ok := true) rfl 2 rfl rfl
theorem d_192_64 {B : zeB} {im : Nat → Nat → Int32} {lm : Nat → Nat → Int64} (l1 : Int64) (l3 : Int32) (o4 : Option Value)  : zeRun 192 64 [some (.ref 16), some (.long l1), none, some (.int l3), o4] [] (zk B im lm) = zeRun 192 67 [some (.ref 16), some (.long l1), none, some (.int l3), some (.int 0)] [] (zk B im lm) := ze_go (ok := true) rfl 2 rfl rfl
theorem d_192_67 {B : zeB} {im : Nat → Nat → Int32} {lm : Nat → Nat → Int64} (l1 : Int64) (l3 : Int32) (l4 : Int32)  : zeRun 192 67 [some (.ref 16), some (.long l1), none, some (.int l3), some (.int l4)] [] (zk B im lm) = if 8 ≤ l4 then zeRun 192 95 [some (.ref 16), some (.long l1), none, some (.int l3), some (.int l4)] [] (zk B im lm) else zeRun 192 74 [some (.ref 16), some (.long l1), none, some (.int l3), some (.int l4)] [] (zk B im lm) := ze_if (ok := true) rfl 3 rfl rfl
theorem d_192_95 {B : zeB} {im : Nat → Nat → Int32} {lm : Nat → Nat → Int64} (l1 : Int64) (l3 : Int32) (o4 : Option Value)  : zeRun 192 95 [some (.ref 16), some (.long l1), none, some (.int l3), o4] [] (zk B im lm) = zeRun 192 55 [some (.ref 16), some (.long l1), none, some (.int (l3 + 1)), o4] [] (zk B im lm) := ze_go (ok := true) rfl 2 rfl rfl
theorem d_192_74 {B : zeB} {im : Nat → Nat → Int32} {lm : Nat → Nat → Int64} (l1 : Int64) (l3 : Int32) (l4 : Int32)  : zeRun 192 74 [some (.ref 16), some (.long l1), none, some (.int l3), some (.int l4)] [] (zk B im lm) = zeBh 192 86 [some (.ref 16), some (.long l1), none, some (.int l3), some (.int l4)] [.long (31 * l1)] (zeRun 156 0 [some (.ref 16), some (.int l3), some (.int l4)] [] (zk B im lm)) := ze_call (ok := true) rfl 7 rfl rfl rfl
theorem d_192_86 {B : zeB} {im : Nat → Nat → Int32} {lm : Nat → Nat → Int64} (o1 : Option Value) (o2 : Option Value) (l3 : Int32) (l4 : Int32) (s0 : Int64) (s1 : Int32)  : zeRun 192 86 [some (.ref 16), o1, o2, some (.int l3), some (.int l4)] [.int s1, .long s0] (zk B im lm) = zeRun 192 67 [some (.ref 16), some (.long (s0 + (Int32.toInt64 s1))), none, some (.int l3), some (.int (l4 + 1))] [] (zk B im lm) := ze_go (ok := true) rfl 5 rfl rfl
theorem d_192_103 {B : zeB} {im : Nat → Nat → Int32} {lm : Nat → Nat → Int64} (l1 : Int64) (l3 : Int32) (o4 : Option Value)  : zeRun 192 103 [some (.ref 16), some (.long l1), none, some (.int l3), o4] [] (zk B im lm) = zeBh 192 109 [some (.ref 16), some (.long l1), none, some (.int l3), o4] [.int l3] (zeRun 177 0 [some (.ref 16), some (.int 5)] [] (zk B im lm)) := ze_call (ok := true) rfl 4 rfl rfl rfl
theorem d_192_109 {B : zeB} {im : Nat → Nat → Int32} {lm : Nat → Nat → Int64} (l1 : Int64) (l3 : Int32) (o4 : Option Value) (s0 : Int32) (s1 : Int32)  : zeRun 192 109 [some (.ref 16), some (.long l1), none, some (.int l3), o4] [.int s1, .int s0] (zk B im lm) = if s1 ≤ s0 then zeRun 192 149 [some (.ref 16), some (.long l1), none, some (.int l3), o4] [] (zk B im lm) else zeRun 192 112 [some (.ref 16), some (.long l1), none, some (.int l3), o4] [] (zk B im lm) := ze_if (ok := true) rfl 1 rfl rfl
theorem d_192_149 {B : zeB} {im : Nat → Nat → Int32} {lm : Nat → Nat → Int64} (l1 : Int64) (o3 : Option Value) (o4 : Option Value)  : zeRun 192 149 [some (.ref 16), some (.long l1), none, o3, o4] [] (zk B im lm) = zeRun 192 151 [some (.ref 16), some (.long l1), none, some (.int 0), o4] [] (zk B im lm) := ze_go (ok := true) rfl 2 rfl rfl
theorem d_192_112 {B : zeB} {im : Nat → Nat → Int32} {lm : Nat → Nat → Int64} (l1 : Int64) (l3 : Int32) (o4 : Option Value)  : zeRun 192 112 [some (.ref 16), some (.long l1), none, some (.int l3), o4] [] (zk B im lm) = zeRun 192 115 [some (.ref 16), some (.long l1), none, some (.int l3), some (.int 0)] [] (zk B im lm) := ze_go (ok := true) rfl 2 rfl rfl
theorem d_192_115 {B : zeB} {im : Nat → Nat → Int32} {lm : Nat → Nat → Int64} (l1 : Int64) (l3 : Int32) (l4 : Int32)  : zeRun 192 115 [some (.ref 16), some (.long l1), none, some (.int l3), some (.int l4)] [] (zk B im lm) = if 8 ≤ l4 then zeRun 192 143 [some (.ref 16), some (.long l1), none, some (.int l3), some (.int l4)] [] (zk B im lm) else zeRun 192 122 [some (.ref 16), some (.long l1), none, some (.int l3), some (.int l4)] [] (zk B im lm) := ze_if (ok := true) rfl 3 rfl rfl
theorem d_192_143 {B : zeB} {im : Nat → Nat → Int32} {lm : Nat → Nat → Int64} (l1 : Int64) (l3 : Int32) (o4 : Option Value)  : zeRun 192 143 [some (.ref 16), some (.long l1), none, some (.int l3), o4] [] (zk B im lm) = zeRun 192 103 [some (.ref 16), some (.long l1), none, some (.int (l3 + 1)), o4] [] (zk B im lm) := ze_go (ok := true) rfl 2 rfl rfl
theorem d_192_122 {B : zeB} {im : Nat → Nat → Int32} {lm : Nat → Nat → Int64} (l1 : Int64) (l3 : Int32) (l4 : Int32)  : zeRun 192 122 [some (.ref 16), some (.long l1), none, some (.int l3), some (.int l4)] [] (zk B im lm) = zeBh 192 134 [some (.ref 16), some (.long l1), none, some (.int l3), some (.int l4)] [.long (31 * l1)] (zeRun 172 0 [some (.ref 16), some (.int l3), some (.int l4)] [] (zk B im lm)) := ze_call (ok := true) rfl 7 rfl rfl rfl
theorem d_192_134 {B : zeB} {im : Nat → Nat → Int32} {lm : Nat → Nat → Int64} (o1 : Option Value) (o2 : Option Value) (l3 : Int32) (l4 : Int32) (s0 : Int64) (s1 : Int32)  : zeRun 192 134 [some (.ref 16), o1, o2, some (.int l3), some (.int l4)] [.int s1, .long s0] (zk B im lm) = zeRun 192 115 [some (.ref 16), some (.long (s0 + (Int32.toInt64 s1))), none, some (.int l3), some (.int (l4 + 1))] [] (zk B im lm) := ze_go (ok := true) rfl 5 rfl rfl
theorem d_192_151 {B : zeB} {im : Nat → Nat → Int32} {lm : Nat → Nat → Int64} (l1 : Int64) (l3 : Int32) (o4 : Option Value)  : zeRun 192 151 [some (.ref 16), some (.long l1), none, some (.int l3), o4] [] (zk B im lm) = if 25 ≤ l3 then zeRun 192 187 [some (.ref 16), some (.long l1), none, some (.int l3), o4] [] (zk B im lm) else zeRun 192 157 [some (.ref 16), some (.long l1), none, some (.int l3), o4] [] (zk B im lm) := ze_if (ok := true) rfl 3 rfl rfl
theorem d_192_187 {B : zeB} {im : Nat → Nat → Int32} {lm : Nat → Nat → Int64} (o0 : Option Value) (l1 : Int64) (o3 : Option Value) (o4 : Option Value)  : zeRun 192 187 [o0, some (.long l1), none, o3, o4] [] (zk B im lm) = some (some (.long l1), (zk B im lm)) := ze_ret (ok := true) rfl 2 rfl rfl
theorem d_192_157 {B : zeB} {im : Nat → Nat → Int32} {lm : Nat → Nat → Int64} (l1 : Int64) (l3 : Int32) (o4 : Option Value)  : zeRun 192 157 [some (.ref 16), some (.long l1), none, some (.int l3), o4] [] (zk B im lm) = zeBh 192 169 [some (.ref 16), some (.long l1), none, some (.int l3), o4] [.int 2, .long (31 * l1)] (zeRun 169 0 [some (.ref 16), some (.int l3), some (.int 1)] [] (zk B im lm)) := ze_call (ok := true) rfl 8 rfl rfl rfl
theorem d_192_169 {B : zeB} {im : Nat → Nat → Int32} {lm : Nat → Nat → Int64} (o1 : Option Value) (o2 : Option Value) (l3 : Int32) (o4 : Option Value) (s0 : Int64) (s1 : Int32) (s2 : Int32)  : zeRun 192 169 [some (.ref 16), o1, o2, some (.int l3), o4] [.int s2, .int s1, .long s0] (zk B im lm) = zeBh 192 178 [some (.ref 16), o1, o2, some (.int l3), o4] [.long (s0 + (Int32.toInt64 (s1 * s2)))] (zeRun 169 0 [some (.ref 16), some (.int l3), some (.int 2)] [] (zk B im lm)) := ze_call (ok := true) rfl 7 rfl rfl rfl
theorem d_192_178 {B : zeB} {im : Nat → Nat → Int32} {lm : Nat → Nat → Int64} (o1 : Option Value) (o2 : Option Value) (l3 : Int32) (o4 : Option Value) (s0 : Int64) (s1 : Int32)  : zeRun 192 178 [some (.ref 16), o1, o2, some (.int l3), o4] [.int s1, .long s0] (zk B im lm) = zeRun 192 151 [some (.ref 16), some (.long (s0 + (Int32.toInt64 s1))), none, some (.int (l3 + 1)), o4] [] (zk B im lm) := ze_go (ok := true) rfl 5 rfl rfl
def F_192_151  : Nat → Int64 → Int32 → zI → zJ → zRj
  | 0, _, _, _, _ => none
  | n + 1, l1, l3, im, lm =>
    if 25 ≤ l3 then
      some (l1, im, lm)
    else
      zBdj (m_169 l3 1 im lm) fun v1 im1 lm1 =>
      zBdj (m_169 l3 2 im1 lm1) fun v2 im2 lm2 =>
      F_192_151  n (((31 * l1) + (Int32.toInt64 (2 * v1))) + (Int32.toInt64 v2)) (l3 + 1) im2 lm2
theorem F_192_151_ok {B : zeB} : ∀ (n : Nat) (l1 : Int64) (l3 : Int32) (o4 : Option Value) (im : zI) (lm : zJ), zLj B (F_192_151  n l1 l3 im lm) (zeRun 192 151 [some (.ref 16), some (.long l1), none, some (.int l3), o4] [] (zk B im lm)) := by
  intro n
  induction n with
  | zero => intros; exact zLj_none
  | succ n ih =>
    intro l1 l3 o4 im lm
    unfold F_192_151
    refine zLj_if (d_192_151 _ _ _) (fun h => ?_) (fun h => ?_)
    · skip
      exact zLj_ret (d_192_187 _ _ _ _)
    · skip
      refine zLj_bd (d_192_157 _ _ _) (m_169_ok _ _ _ _) fun v1 im1 lm1 => ?_
      refine zLj_bd (d_192_169 _ _ _ _ _ _ _) (m_169_ok _ _ _ _) fun v2 im2 lm2 => ?_
      refine zLj_eq (d_192_178 _ _ _ _ _ _) ?_
      exact ih _ _ _ _ _
def F_192_115 (K103 : Int64 → Int32 → zI → zJ → zRj) : Nat → Int64 → Int32 → Int32 → zI → zJ → zRj
  | 0, _, _, _, _, _ => none
  | n + 1, l1, l3, l4, im, lm =>
    if 8 ≤ l4 then
      K103 l1 (l3 + 1) im lm
    else
      zBdj (m_172 l3 l4 im lm) fun v1 im1 lm1 =>
      F_192_115 K103 n ((31 * l1) + (Int32.toInt64 v1)) l3 (l4 + 1) im1 lm1
theorem F_192_115_ok {B : zeB} (K103 : Int64 → Int32 → zI → zJ → zRj) (hK103 : ∀ (l1 : Int64) (l3 : Int32) (o4 : Option Value) (im : zI) (lm : zJ), zLj B (K103 l1 l3 im lm) (zeRun 192 103 [some (.ref 16), some (.long l1), none, some (.int l3), o4] [] (zk B im lm))) : ∀ (n : Nat) (l1 : Int64) (l3 : Int32) (l4 : Int32)  (im : zI) (lm : zJ), zLj B (F_192_115 K103 n l1 l3 l4 im lm) (zeRun 192 115 [some (.ref 16), some (.long l1), none, some (.int l3), some (.int l4)] [] (zk B im lm)) := by
  intro n
  induction n with
  | zero => intros; exact zLj_none
  | succ n ih =>
    intro l1 l3 l4 im lm
    unfold F_192_115
    refine zLj_if (d_192_115 _ _ _) (fun h => ?_) (fun h => ?_)
    · skip
      refine zLj_eq (d_192_143 _ _ _) ?_
      exact hK103 _ _ _ _ _
    · skip
      refine zLj_bd (d_192_122 _ _ _) (m_172_ok _ _ _ _) fun v1 im1 lm1 => ?_
      refine zLj_eq (d_192_134 _ _ _ _ _ _) ?_
      exact ih _ _ _ _ _
def F_192_103  : Nat → Int64 → Int32 → zI → zJ → zRj
  | 0, _, _, _, _ => none
  | n + 1, l1, l3, im, lm =>
    zBdj (m_177 5 im lm) fun v1 im1 lm1 =>
    if v1 ≤ l3 then
      F_192_151  2000 l1 0 im1 lm1
    else
      F_192_115 (F_192_103  n) 2000 l1 l3 0 im1 lm1
theorem F_192_103_ok {B : zeB} : ∀ (n : Nat) (l1 : Int64) (l3 : Int32) (o4 : Option Value) (im : zI) (lm : zJ), zLj B (F_192_103  n l1 l3 im lm) (zeRun 192 103 [some (.ref 16), some (.long l1), none, some (.int l3), o4] [] (zk B im lm)) := by
  intro n
  induction n with
  | zero => intros; exact zLj_none
  | succ n ih =>
    intro l1 l3 o4 im lm
    unfold F_192_103
    refine zLj_bd (d_192_103 _ _ _) (m_177_ok _ _ _) fun v1 im1 lm1 => ?_
    refine zLj_if (d_192_109 _ _ _ _ _) (fun h => ?_) (fun h => ?_)
    · skip
      refine zLj_eq (d_192_149 _ _ _) ?_
      exact F_192_151_ok  _ _ _ _ _ _
    · skip
      refine zLj_eq (d_192_112 _ _ _) ?_
      exact F_192_115_ok _ ih _ _ _ _ _ _
def F_192_67 (K55 : Int64 → Int32 → zI → zJ → zRj) : Nat → Int64 → Int32 → Int32 → zI → zJ → zRj
  | 0, _, _, _, _, _ => none
  | n + 1, l1, l3, l4, im, lm =>
    if 8 ≤ l4 then
      K55 l1 (l3 + 1) im lm
    else
      zBdj (m_156 l3 l4 im lm) fun v1 im1 lm1 =>
      F_192_67 K55 n ((31 * l1) + (Int32.toInt64 v1)) l3 (l4 + 1) im1 lm1
theorem F_192_67_ok {B : zeB} (K55 : Int64 → Int32 → zI → zJ → zRj) (hK55 : ∀ (l1 : Int64) (l3 : Int32) (o4 : Option Value) (im : zI) (lm : zJ), zLj B (K55 l1 l3 im lm) (zeRun 192 55 [some (.ref 16), some (.long l1), none, some (.int l3), o4] [] (zk B im lm))) : ∀ (n : Nat) (l1 : Int64) (l3 : Int32) (l4 : Int32)  (im : zI) (lm : zJ), zLj B (F_192_67 K55 n l1 l3 l4 im lm) (zeRun 192 67 [some (.ref 16), some (.long l1), none, some (.int l3), some (.int l4)] [] (zk B im lm)) := by
  intro n
  induction n with
  | zero => intros; exact zLj_none
  | succ n ih =>
    intro l1 l3 l4 im lm
    unfold F_192_67
    refine zLj_if (d_192_67 _ _ _) (fun h => ?_) (fun h => ?_)
    · skip
      refine zLj_eq (d_192_95 _ _ _) ?_
      exact hK55 _ _ _ _ _
    · skip
      refine zLj_bd (d_192_74 _ _ _) (m_156_ok _ _ _ _) fun v1 im1 lm1 => ?_
      refine zLj_eq (d_192_86 _ _ _ _ _ _) ?_
      exact ih _ _ _ _ _
def F_192_55  : Nat → Int64 → Int32 → zI → zJ → zRj
  | 0, _, _, _, _ => none
  | n + 1, l1, l3, im, lm =>
    zBdj (m_177 1 im lm) fun v1 im1 lm1 =>
    if v1 ≤ l3 then
      F_192_103  2000 l1 0 im1 lm1
    else
      F_192_67 (F_192_55  n) 2000 l1 l3 0 im1 lm1
theorem F_192_55_ok {B : zeB} : ∀ (n : Nat) (l1 : Int64) (l3 : Int32) (o4 : Option Value) (im : zI) (lm : zJ), zLj B (F_192_55  n l1 l3 im lm) (zeRun 192 55 [some (.ref 16), some (.long l1), none, some (.int l3), o4] [] (zk B im lm)) := by
  intro n
  induction n with
  | zero => intros; exact zLj_none
  | succ n ih =>
    intro l1 l3 o4 im lm
    unfold F_192_55
    refine zLj_bd (d_192_55 _ _ _) (m_177_ok _ _ _) fun v1 im1 lm1 => ?_
    refine zLj_if (d_192_61 _ _ _ _ _) (fun h => ?_) (fun h => ?_)
    · skip
      refine zLj_eq (d_192_101 _ _ _) ?_
      exact F_192_103_ok  _ _ _ _ _ _
    · skip
      refine zLj_eq (d_192_64 _ _ _) ?_
      exact F_192_67_ok _ ih _ _ _ _ _ _
def J_192_35 (K6 : Int64 → Int32 → zI → zJ → zRj) (l3 : Int32) (s0 : Int64) (im : zI) (lm : zJ) : zRj :=
    K6 (s0 + (Int32.toInt64 0)) (l3 + 1) im lm
theorem J_192_35_ok {B : zeB} (K6 : Int64 → Int32 → zI → zJ → zRj) (hK6 : ∀ (l1 : Int64) (l3 : Int32) (o4 : Option Value) (im : zI) (lm : zJ), zLj B (K6 l1 l3 im lm) (zeRun 192 6 [some (.ref 16), some (.long l1), none, some (.int l3), o4] [] (zk B im lm))) (l3 : Int32) (s0 : Int64) (o1 : Option Value) (o2 : Option Value) (o4 : Option Value) (im : zI) (lm : zJ) : zLj B (J_192_35 K6 l3 s0 im lm) (zeRun 192 35 [some (.ref 16), o1, o2, some (.int l3), o4] [.long s0] (zk B im lm)) := by
  unfold J_192_35
  refine zLj_eq (d_192_35 _ _ _ _ _) ?_
  exact hK6 _ _ _ _ _
def F_192_6  : Nat → Int64 → Int32 → zI → zJ → zRj
  | 0, _, _, _, _ => none
  | n + 1, l1, l3, im, lm =>
    if 15 ≤ l3 then
      F_192_55  2000 l1 0 im lm
    else
      if l3 = 11 then
        J_192_35 (F_192_6  n)  l3 (31 * l1) im lm
      else
        if l3 = 12 then
          J_192_35 (F_192_6  n)  l3 (31 * l1) im lm
        else
          if l3 = 13 then
            J_192_35 (F_192_6  n)  l3 (31 * l1) im lm
          else
            zBdj (m_177 l3 im lm) fun v1 im1 lm1 =>
            F_192_6  n ((31 * l1) + (Int32.toInt64 v1)) (l3 + 1) im1 lm1
theorem F_192_6_ok {B : zeB} : ∀ (n : Nat) (l1 : Int64) (l3 : Int32) (o4 : Option Value) (im : zI) (lm : zJ), zLj B (F_192_6  n l1 l3 im lm) (zeRun 192 6 [some (.ref 16), some (.long l1), none, some (.int l3), o4] [] (zk B im lm)) := by
  intro n
  induction n with
  | zero => intros; exact zLj_none
  | succ n ih =>
    intro l1 l3 o4 im lm
    unfold F_192_6
    refine zLj_if (d_192_6 _ _ _) (fun h => ?_) (fun h => ?_)
    · skip
      refine zLj_eq (d_192_53 _ _ _) ?_
      exact F_192_55_ok  _ _ _ _ _ _
    · skip
      refine zLj_if (d_192_12 _ _ _) (fun h => ?_) (fun h => ?_)
      · skip
        exact J_192_35_ok _ ih  _ _ _ _ _ _ _
      · skip
        refine zLj_if (d_192_23 _ _ _ _ _) (fun h => ?_) (fun h => ?_)
        · skip
          exact J_192_35_ok _ ih  _ _ _ _ _ _ _
        · skip
          refine zLj_if (d_192_29 _ _ _ _ _) (fun h => ?_) (fun h => ?_)
          · skip
            exact J_192_35_ok _ ih  _ _ _ _ _ _ _
          · skip
            refine zLj_bd (d_192_39 _ _ _ _ _) (m_177_ok _ _ _) fun v1 im1 lm1 => ?_
            refine zLj_eq (d_192_44 _ _ _ _ _ _) ?_
            exact ih _ _ _ _ _
def m_192  (im : zI) (lm : zJ) : zRj :=
    F_192_6  2000 41 0 im lm
theorem m_192_ok {B : zeB}  (im : zI) (lm : zJ) : zLj B (m_192  im lm) (zeRun 192 0 [some (.ref 16), none, none, none, none] [] (zk B im lm)) := by
  unfold m_192
  refine zLj_eq (d_192_0 _ _ _ _) ?_
  exact F_192_6_ok  _ _ _ _ _ _
