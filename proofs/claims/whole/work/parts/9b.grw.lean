/-! ONE STEP of the virtual machine; comparisons -/
theorem ze_st1 {i : Nat} {t : Nat → Option zeOp} (ht : zeTb i = t) {pc : Nat} {op : zeOp} (hp : t pc = some op) {L : zeLo} {st : List Value} {μ : zeM} {pc' : Nat} {L' : zeLo} {st' : List Value} {μ' : zeM} (h : op L st μ = some (.inl (pc', L', st', μ'))) : zeRun i pc L st μ = zeRun i pc' L' st' μ' := by
  rw [zeRun_eq i pc L st μ t ht, hp]
  show (match op L st μ with | none => none | some (.inl (pc', L', st', μ')) => zeRun i pc' L' st' μ' | some (.inr (.inl r)) => some r | some (.inr (.inr (j, as, pc', L', st', μ'))) => zeRun j 0 (zeEnt (zeNl j) as) [] μ' >>= fun r => zeRun i pc' L' (r.1.toList ++ st') r.2) = _
  rw [h]
theorem ble_t {a b : Nat} (h : a ≤ b) : Nat.ble a b = true := Nat.ble_eq.mpr h
theorem ble_f {a b : Nat} (h : b < a) : Nat.ble a b = false := by
  cases hq : Nat.ble a b with
  | false => rfl
  | true => have := Nat.ble_eq.mp hq; omega
