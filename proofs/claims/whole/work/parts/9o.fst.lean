/-! THE FIRST MEMORY behind the constructors *-/
def PJ (f : Nat → Option Nat) : Prop := ∀ j, 24 ≤ j → f j = none
theorem pj_n : PJ (fun _ => none) := fun _ _ => rfl
theorem pj_br {k : Nat} {a b : Nat → Option Nat} (hk : k ≤ 24) (hb : PJ b) : PJ (zeBr k a b) := fun j hj => by
  show cond (Nat.ble k j) (b j) (a j) = none
  rw [ble_t (show k ≤ j by omega)]; exact hb j hj
theorem pj_o {k : Nat} {A B : Nat → Nat → Option Nat} {i : Nat} (hA : PJ (A i)) (hB : PJ (B i)) : PJ (zeBr k A B i) := by
  show PJ (cond (Nat.ble k i) (B i) (A i))
  cases Nat.ble k i with
  | true => exact hB
  | false => exact hA
theorem pj_Rs (x a : Nat) : PJ (zeRs x a) := by
  unfold zeRs
  repeat' (first | exact pj_n | apply pj_o | apply pj_br (by decide))
def rmZ : zRm := fun a => cond (Nat.blt a 16) (zeRs 169 a) (fun _ => none)
def imZ (w : zI) : zI := fun a => cond (Nat.blt a 16) (w a) (fun _ => 0)
def lmZ : zJ := fun _ _ => 0
theorem Zs_0 (w : zI) : Zs 0 rmZ (imZ w) lmZ := by
  refine ⟨fun a ha => ?_, fun a ha => ?_, fun a ha => rfl⟩
  · unfold rmZ; rw [blt_f (show 16 ≤ a by omega)]; rfl
  · unfold imZ; rw [blt_f (show 16 ≤ a by omega)]; rfl
theorem RJ_0 : RJ rmZ := fun a j hj => by
  show cond (Nat.blt a 16) (zeRs 169 a) (fun _ => none) j = none
  cases Nat.blt a 16 with
  | true => exact pj_Rs 169 a j hj
  | false => rfl
def B0 (len sl : Nat) : zeB := (171, sl, fun _ => 0, fun _ => 0, 169, len, fun _ _ => none)
set_option maxRecDepth 100000 in
theorem rm_fin : ∀ a, a < 187 → ∀ j, j < 24 → rC_42 rmZ a j = zeRs 169 a j := by decide +kernel
theorem zc_zk {len sl : Nat} {im : zI} {lm : zJ} (hz : Zs 171 (rC_42 rmZ) im lm) : zc len 171 sl (rC_42 rmZ) im lm = zk (B0 len sl) im lm := by
  have e1 : KDt 171 = zkK (B0 len sl) := by
    funext a
    show cond (Nat.blt a 187) (zeKs a) 0 = cond (Nat.ble 187 a) 0 (zeKs a)
    by_cases g : a < 187
    · rw [blt_t g, ble_f g]; rfl
    · rw [blt_f (by omega), ble_t (show 187 ≤ a by omega)]; rfl
  have e2 : LNt len 171 = zkL (B0 len sl) := by
    funext a
    show cond (Nat.blt a 187) (zeLs len a) 0 = cond (Nat.ble 187 a) 0 (zeLs len a)
    by_cases g : a < 187
    · rw [blt_t g, ble_f g]; rfl
    · rw [blt_f (by omega), ble_t (show 187 ≤ a by omega)]; rfl
  have e3 : rC_42 rmZ = zkR (B0 len sl) := by
    funext a j
    show rC_42 rmZ a j = cond (Nat.ble 187 a) (fun _ => none) (zeRs 169 a) j
    by_cases g : a < 187
    · rw [ble_f g]
      show _ = zeRs 169 a j
      by_cases g2 : j < 24
      · exact rm_fin a g j g2
      · rw [rj_42 RJ_0 a j (by omega), pj_Rs 169 a j (by omega)]
    · rw [ble_t (show 187 ≤ a by omega), hz.1 a (by omega)]; rfl
  show (true, 171, sl, KDt 171, LNt len 171, rC_42 rmZ, im, lm) = _
  rw [e1, e2, e3]; rfl
