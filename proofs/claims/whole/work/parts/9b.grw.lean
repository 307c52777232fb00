/-! THE TEXT BUFFER: single steps; it grows *-/
theorem ze_st1 {i : Nat} {t : Nat → Option zeOp} (ht : zeTb i = t) {pc : Nat} {op : zeOp} (hp : t pc = some op) {L : zeLo} {st : List Value} {μ : zeM} {pc' : Nat} {L' : zeLo} {st' : List Value} {μ' : zeM} (h : op L st μ = some (.inl (pc', L', st', μ'))) : zeRun i pc L st μ = zeRun i pc' L' st' μ' := by
  rw [zeRun_eq i pc L st μ t ht, hp]
  show (match op L st μ with | none => none | some (.inl (pc', L', st', μ')) => zeRun i pc' L' st' μ' | some (.inr (.inl r)) => some r | some (.inr (.inr (j, as, pc', L', st', μ'))) => zeRun j 0 (zeEnt (zeNl j) as) [] μ' >>= fun r => zeRun i pc' L' (r.1.toList ++ st') r.2) = _
  rw [h]
theorem o_len {B : zeB} {b : Nat} (h : zkK B b = 42) (n : Nat) (L : zeLo) (st : List Value) (im : zI) (lm : zJ) : zoLen n L (.ref b :: st) (zk B im lm) = some (.inl (n, L, .int (nn (zkL B b)) :: st, zk B im lm)) := by
  show cond (Nat.ble 40 (zkK B b) && Nat.ble (zkK B b) 45) (zeNx n L (.int (nn (zkL B b)) :: st) (zk B im lm)) none = _
  rw [h]; rfl
theorem o_ld {B : zeB} {b : Nat} (h : zkK B b = 42) {i : Int32} (hc : zeInb i (zkL B b) = true) (n : Nat) (L : zeLo) (st : List Value) (im : zI) (lm : zJ) : zoLd 42 n L (.int i :: .ref b :: st) (zk B im lm) = some (.inl (n, L, .int (im b i.toNatClampNeg) :: st, zk B im lm)) := by
  show cond (Nat.beq (zkK B b) 42) (zeNx n L (.int (im b i.toNatClampNeg) :: st) (zeCk (zeInb i (zkL B b)) (zk B im lm))) none = _
  rw [h, hc]; rfl
theorem o_st {B : zeB} {b : Nat} (h : zkK B b = 42) {i : Int32} (hc : zeInb i (zkL B b) = true) (x : Int32) (n : Nat) (L : zeLo) (st : List Value) (im : zI) (lm : zJ) : zoSt 42 n L (.int x :: .int i :: .ref b :: st) (zk B im lm) = some (.inl (n, L, st, zk B (zeU2 im b i.toNatClampNeg (vp_nar .byte x)) lm)) := by
  show cond (Nat.beq (zkK B b) 42) (zeNx n L st (zeCk (zeInb i (zkL B b)) (zk B (zeU2 im b i.toNatClampNeg (vp_nar .byte x)) lm))) none = _
  rw [h, hc]; rfl
theorem o_cpO {B : zeB} {a0 b : Nat} (h : zkK B b = 42) (h0 : zkK B a0 = 102) {sp dp k : Int32} (hc : zeCpOk sp dp k (zkL B a0) (zkL B b) = true) (n : Nat) (L : zeLo) (im : zI) (lm : zJ) : zoCpO n L [.int k, .int dp, .ref b, .int sp, .ref a0] (zk B im lm) = some (.inl (n, L, [], zk B (zeCpy im a0 sp.toNatClampNeg b dp.toNatClampNeg k.toNatClampNeg) lm)) := by
  show cond (Nat.beq (zkK B b) 42 && (Nat.beq (zkK B a0) 102 && true)) (zeNx n L [] (zeCk (zeCpOk sp dp k (zkL B a0) (zkL B b)) (zk B (zeCpy im a0 sp.toNatClampNeg b dp.toNatClampNeg k.toNatClampNeg) lm))) none = _
  rw [h, h0, hc]; rfl
theorem o_cp {B : zeB} {a0 b : Nat} (h : zkK B b = 42) (h0 : zkK B a0 = 42) {sp dp k : Int32} (hc : zeCpOk sp dp k (zkL B a0) (zkL B b) = true) (n : Nat) (L : zeLo) (im : zI) (lm : zJ) : zoCp 42 n L [.int k, .int dp, .ref b, .int sp, .ref a0] (zk B im lm) = some (.inl (n, L, [], zk B (zeCpy im a0 sp.toNatClampNeg b dp.toNatClampNeg k.toNatClampNeg) lm)) := by
  show cond (Nat.beq (zkK B b) 42 && (Nat.beq (zkK B a0) 42 && true)) (zeNx n L [] (zeCk (zeCpOk sp dp k (zkL B a0) (zkL B b)) (zk B (zeCpy im a0 sp.toNatClampNeg b dp.toNatClampNeg k.toNatClampNeg) lm))) none = _
  rw [h, h0, hc]; rfl
/-- the frame behind a new byte array of k places; and with it as the buffer -/
def nwB (B : zeB) (k : Nat) : zeB := (B.1 + 1, B.2.1 + k, zeU1 B.kb (16 + B.1) 42, zeU1 B.lb (16 + B.1) k, B.buf, B.len, zeU1 B.rb (16 + B.1) (fun _ => none))
def sbB (B : zeB) (b : Nat) : zeB := (B.1, B.2.1, B.kb, B.lb, b, B.len, B.rb)
theorem ble_t {a b : Nat} (h : a ≤ b) : Nat.ble a b = true := Nat.ble_eq.mpr h
theorem ble_f {a b : Nat} (h : b < a) : Nat.ble a b = false := by
  cases hq : Nat.ble a b with
  | false => rfl
  | true => have := Nat.ble_eq.mp hq; omega
theorem zk_new {B : zeB} (hn : 187 ≤ 16 + B.1) (k : Nat) (im : zI) (lm : zJ) : zeNew 42 k k (zk B im lm) = zk (nwB B k) (zeU1 im (16 + B.1) (fun _ => 0)) (zeU1 lm (16 + B.1) (fun _ => 0)) := by
  have e1 : zeU1 (zkK B) (16 + B.1) 42 = zkK (nwB B k) := by
    funext a
    show (if a = 16 + B.1 then 42 else zkK B a) = cond (Nat.ble 187 a) (if a = 16 + B.1 then 42 else B.kb a) (zeKs a)
    by_cases g : a = 16 + B.1
    · subst g; rw [if_pos rfl, if_pos rfl, ble_t hn]; rfl
    · rw [if_neg g, if_neg g]; rfl
  have e2 : zeU1 (zkL B) (16 + B.1) k = zkL (nwB B k) := by
    funext a
    show (if a = 16 + B.1 then k else zkL B a) = cond (Nat.ble 187 a) (if a = 16 + B.1 then k else B.lb a) (zeLs B.len a)
    by_cases g : a = 16 + B.1
    · subst g; rw [if_pos rfl, if_pos rfl, ble_t hn]; rfl
    · rw [if_neg g, if_neg g]; rfl
  have e3 : zeU1 (zkR B) (16 + B.1) (fun _ => none) = zkR (nwB B k) := by
    funext a
    show (if a = 16 + B.1 then (fun _ => none) else zkR B a) = cond (Nat.ble 187 a) (if a = 16 + B.1 then (fun _ => none) else B.rb a) (zeRs B.buf a)
    by_cases g : a = 16 + B.1
    · subst g; rw [if_pos rfl, if_pos rfl, ble_t hn]; rfl
    · rw [if_neg g, if_neg g]; rfl
  show (true, B.1 + 1, B.2.1 + k, zeU1 (zkK B) (16 + B.1) 42, zeU1 (zkL B) (16 + B.1) k, zeU1 (zkR B) (16 + B.1) (fun _ => none), zeU1 im (16 + B.1) (fun _ => 0), zeU1 lm (16 + B.1) (fun _ => 0)) = _
  rw [e1, e2, e3]; rfl
theorem o_new {B : zeB} (hn : 187 ≤ 16 + B.1) {k : Nat} (hk : k ≤ 1000) (n : Nat) (L : zeLo) (st : List Value) (im : zI) (lm : zJ) : zoNewa 42 n L (.int (nn k) :: st) (zk B im lm) = some (.inl (n, L, .ref (16 + B.1) :: st, zk (nwB B k) (zeU1 im (16 + B.1) (fun _ => 0)) (zeU1 lm (16 + B.1) (fun _ => 0)))) := by
  rw [← zk_new hn k im lm]
  show zeNx n L (.ref (16 + B.1) :: st) (zeCk (!(decide (nn k < 0)) && Nat.ble (nn k).toNatClampNeg 1000000) (zeNew 42 (nn k).toNatClampNeg (nn k).toNatClampNeg (zk B im lm))) = _
  rw [tn_nn k (by omega), ble_t (show k ≤ 1000000 by omega), decide_eq_false (nn_neg k (by omega))]
  rfl
theorem br_r {α : Type} {k : Nat} {a b b' : Nat → α} {i : Nat} (h : Nat.ble k i = true → b i = b' i) : zeBr k a b i = zeBr k a b' i := by
  show cond (Nat.ble k i) (b i) (a i) = cond (Nat.ble k i) (b' i) (a i)
  cases hq : Nat.ble k i with
  | false => rfl
  | true => exact h hq
theorem br_l {α : Type} {k : Nat} {a a' b : Nat → α} {i : Nat} (h : Nat.ble k i = false → a i = a' i) : zeBr k a b i = zeBr k a' b i := by
  show cond (Nat.ble k i) (b i) (a i) = cond (Nat.ble k i) (b i) (a' i)
  cases hq : Nat.ble k i with
  | false => exact h hq
  | true => rfl
theorem zeRs_bf (x b a : Nat) (h : a ≠ 168) : zeRs x a = zeRs b a := by
  unfold zeRs
  refine br_r fun _ => br_r fun _ => br_r fun _ => br_r fun _ => br_l fun h1 => br_r fun _ => br_r fun h2 => ?_
  have h3 := Nat.ble_eq.mp h2
  have h4 : ¬ 169 ≤ a := fun hh => by rw [ble_t hh] at h1; cases h1
  exact absurd (show a = 168 by omega) h
theorem o_pr {B : zeB} {b : Nat} (hb : 16 ≤ b) (n : Nat) (L : zeLo) (im : zI) (lm : zJ) : zoPr 9 0 n L [.ref b, .ref 168] (zk B im lm) = some (.inl (n, L, [], zk (sbB B b) im lm)) := by
  have e : zeU2 (zkR B) 168 0 (some b) = zkR (sbB B b) := by
    funext a j
    show (if a = 168 then (if j = 0 then some b else zkR B a j) else zkR B a j) = cond (Nat.ble 187 a) (B.rb a) (zeRs b a) j
    by_cases g : a = 168
    · subst g
      rw [if_pos rfl]
      show (if j = 0 then some b else cond (Nat.beq j 0) (some B.buf) none) = cond (Nat.beq j 0) (some b) none
      cases j with
      | zero => rfl
      | succ j => rfl
    · rw [if_neg g]
      show cond (Nat.ble 187 a) (B.rb a) (zeRs B.buf a) j = _
      rw [zeRs_bf B.buf b a g]
  show cond (true && Nat.ble 16 b) (zeNx n L [] (true, B.1, B.2.1, zkK B, zkL B, zeU2 (zkR B) 168 0 (some b), im, lm)) none = _
  rw [ble_t hb, e]; rfl
theorem ze_rt1 {i : Nat} {t : Nat → Option zeOp} (ht : zeTb i = t) {pc : Nat} {op : zeOp} (hp : t pc = some op) {L : zeLo} {st : List Value} {μ : zeM} {r : Option Value × zeM} (h : op L st μ = some (.inr (.inl r))) : zeRun i pc L st μ = some r := by
  rw [zeRun_eq i pc L st μ t ht, hp]
  show (match op L st μ with | none => none | some (.inl (pc', L', st', μ')) => zeRun i pc' L' st' μ' | some (.inr (.inl r)) => some r | some (.inr (.inr (j, as, pc', L', st', μ'))) => zeRun j 0 (zeEnt (zeNl j) as) [] μ' >>= fun r => zeRun i pc' L' (r.1.toList ++ st') r.2) = _
  rw [h]
theorem o_ra {a : Nat} (h : 16 ≤ a) (L : zeLo) (μ : zeM) : zoRetA L [.ref a] μ = some (.inr (.inl (some (.ref a), μ))) := by
  show (cond (Nat.ble 16 a) (some (Sum.inr (Sum.inl (some (Value.ref a), μ)))) none : Option zeOut) = _
  rw [ble_t h]; rfl
