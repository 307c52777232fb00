/-! THE CONSTRUCTORS: memory while they run *-/
theorem ble_t {a b : Nat} (h : a ≤ b) : Nat.ble a b = true := g_ble_t h
theorem ble_f {a b : Nat} (h : b < a) : Nat.ble a b = false := g_ble_f h
abbrev zRm : Type := Nat → Nat → Option Nat
def KDt (n a : Nat) : Nat := cond (Nat.blt a (16 + n)) (zeKs a) 0
def LNt (len n a : Nat) : Nat := cond (Nat.blt a (16 + n)) (zeLs len a) 0
def zc (len n sl : Nat) (rm : zRm) (im : zI) (lm : zJ) : zeM := (true, n, sl, KDt n, LNt len n, rm, im, lm)
def Zs (n : Nat) (rm : zRm) (im : zI) (lm : zJ) : Prop := (∀ a, 16 + n ≤ a → rm a = fun _ => none) ∧ (∀ a, 16 + n ≤ a → im a = fun _ => 0) ∧ ∀ a, 16 + n ≤ a → lm a = fun _ => 0
theorem Zs_r {n : Nat} {rm : zRm} {im : zI} {lm : zJ} (h : Zs n rm im lm) {a j : Nat} {x : Option Nat} (ha : a < 16 + n) : Zs n (zeU2 rm a j x) im lm := by
  refine ⟨fun b hb => ?_, h.2⟩
  rw [← h.1 b hb]
  exact u2n _ _ _ _ _ (by omega)
theorem Zs_i {n : Nat} {rm : zRm} {im : zI} {lm : zJ} (h : Zs n rm im lm) {a j : Nat} {x : Int32} (ha : a < 16 + n) : Zs n rm (zeU2 im a j x) lm := by
  refine ⟨h.1, fun b hb => ?_, h.2.2⟩
  rw [← h.2.1 b hb]
  exact u2n _ _ _ _ _ (by omega)
theorem Zs_m {n m : Nat} {rm : zRm} {im : zI} {lm : zJ} (h : Zs n rm im lm) (hm : n ≤ m) : Zs m rm im lm := ⟨fun a ha => h.1 a (by omega), fun a ha => h.2.1 a (by omega), fun a ha => h.2.2 a (by omega)⟩
theorem blt_t {a b : Nat} (h : a < b) : Nat.blt a b = true := Nat.blt_eq.mpr h
theorem blt_f {a b : Nat} (h : b ≤ a) : Nat.blt a b = false := by
  cases hq : Nat.blt a b with
  | false => rfl
  | true => have := Nat.blt_eq.mp hq; omega
theorem zc_new {len n sl kd ln s : Nat} {rm : zRm} {im : zI} {lm : zJ} (hz : Zs n rm im lm) (hk : zeKs (16 + n) = kd) (hl : zeLs len (16 + n) = ln) : zeNew kd ln s (zc len n sl rm im lm) = zc len (n + 1) (sl + s) rm im lm := by
  have e1 : zeU1 (KDt n) (16 + n) kd = KDt (n + 1) := by
    funext a
    show (if a = 16 + n then kd else KDt n a) = cond (Nat.blt a (16 + (n + 1))) (zeKs a) 0
    by_cases g : a = 16 + n
    · subst g; rw [if_pos rfl, blt_t (by omega)]; exact hk.symm
    · rw [if_neg g]
      show cond (Nat.blt a (16 + n)) (zeKs a) 0 = _
      by_cases g2 : a < 16 + n
      · rw [blt_t g2, blt_t (by omega)]
      · rw [blt_f (by omega), blt_f (by omega)]
  have e2 : zeU1 (LNt len n) (16 + n) ln = LNt len (n + 1) := by
    funext a
    show (if a = 16 + n then ln else LNt len n a) = cond (Nat.blt a (16 + (n + 1))) (zeLs len a) 0
    by_cases g : a = 16 + n
    · subst g; rw [if_pos rfl, blt_t (by omega)]; exact hl.symm
    · rw [if_neg g]
      show cond (Nat.blt a (16 + n)) (zeLs len a) 0 = _
      by_cases g2 : a < 16 + n
      · rw [blt_t g2, blt_t (by omega)]
      · rw [blt_f (by omega), blt_f (by omega)]
  have u : ∀ {α : Type} (f : Nat → α) (x : α), f (16 + n) = x → zeU1 f (16 + n) x = f := by
    intro α f x h
    funext a
    show (if a = 16 + n then x else f a) = f a
    by_cases g : a = 16 + n
    · subst g; rw [if_pos rfl]; exact h.symm
    · rw [if_neg g]
  show (true, n + 1, sl + s, zeU1 (KDt n) (16 + n) kd, zeU1 (LNt len n) (16 + n) ln, zeU1 rm (16 + n) (fun _ => none), zeU1 im (16 + n) (fun _ => 0), zeU1 lm (16 + n) (fun _ => 0)) = _
  rw [e1, e2, u rm _ (hz.1 _ (Nat.le_refl _)), u im _ (hz.2.1 _ (Nat.le_refl _)), u lm _ (hz.2.2 _ (Nat.le_refl _))]; rfl
theorem zx_go {i : Nat} {t : Nat → Option zeOp} (ht : zeTb i = t) (n : Nat) {pc pc' : Nat} {L L' : zeLo} {st st' : List Value} {μ μ' : zeM} (h : zeGn t n pc L st μ = some (.inl (pc', L', st', μ'))) : zeRun i pc L st μ = zeRun i pc' L' st' μ' := zeGn_ok ht n _ _ _ _ _ h
theorem zx_ret {i : Nat} {t : Nat → Option zeOp} (ht : zeTb i = t) (n : Nat) {pc : Nat} {L : zeLo} {st : List Value} {μ : zeM} {r : Option Value × zeM} (h : zeGn t n pc L st μ = some (.inr (.inl r))) : zeRun i pc L st μ = some r := zeGn_ok ht n _ _ _ _ _ h
theorem zx_call {i : Nat} {t : Nat → Option zeOp} (ht : zeTb i = t) (n : Nat) {pc pc' j : Nat} {as : List Value} {L L' L2 : zeLo} {st st' : List Value} {μ μ' : zeM} (h : zeGn t n pc L st μ = some (.inr (.inr (j, as, pc', L', st', μ')))) (h2 : zeEnt (zeNl j) as = L2) : zeRun i pc L st μ = zeBh i pc' L' st' (zeRun j 0 L2 [] μ') := by
  subst h2
  refine (zeGn_ok ht n _ _ _ _ _ h).trans ?_
  simp only [Bind.bind]
  unfold zeBh
  cases zeRun j 0 (zeEnt (zeNl j) as) [] μ' with
  | none => rfl
  | some r => rfl
theorem zx_new {i : Nat} {t : Nat → Option zeOp} (ht : zeTb i = t) {pc pc' ci nf : Nat} (hp : t pc = some (zoNew ci nf pc')) {len n sl : Nat} {rm : zRm} {im : zI} {lm : zJ} (hz : Zs n rm im lm) (hk : zeKs (16 + n) = ci + 1) (hl : zeLs len (16 + n) = 0) {L : zeLo} {st : List Value} : zeRun i pc L st (zc len n sl rm im lm) = zeRun i pc' L (.ref (16 + n) :: st) (zc len (n + 1) (sl + nf) rm im lm) := by
  refine ze_st1 ht hp ?_
  rw [← zc_new hz hk hl]; rfl
theorem zx_newa {i : Nat} {t : Nat → Option zeOp} (ht : zeTb i = t) {pc pc' kd : Nat} (hp : t pc = some (zoNewa kd pc')) {len n sl k : Nat} {rm : zRm} {im : zI} {lm : zJ} (hz : Zs n rm im lm) (hk : zeKs (16 + n) = kd) (hl : zeLs len (16 + n) = k) (hk2 : k ≤ 100000) {L : zeLo} {st : List Value} : zeRun i pc L (.int (nn k) :: st) (zc len n sl rm im lm) = zeRun i pc' L (.ref (16 + n) :: st) (zc len (n + 1) (sl + k) rm im lm) := by
  refine ze_st1 ht hp ?_
  rw [← zc_new hz hk hl]
  show zeNx pc' L (.ref (16 + n) :: st) (zeCk (!(decide (nn k < 0)) && Nat.ble (nn k).toNatClampNeg 1000000) (zeNew kd (nn k).toNatClampNeg (nn k).toNatClampNeg (zc len n sl rm im lm))) = _
  rw [tn_nn k (by omega), ble_t (show k ≤ 1000000 by omega), decide_eq_false (nn_neg k (by omega))]; rfl
def RJ (rm : zRm) : Prop := ∀ a j, 24 ≤ j → rm a j = none
theorem RJ_u {rm : zRm} (h : RJ rm) {a j : Nat} {x : Option Nat} (hj : j < 24) : RJ (zeU2 rm a j x) := fun a' j' h2 => by
  rw [u2_j _ _ _ _ _ _ (by omega)]; exact h a' j' h2
