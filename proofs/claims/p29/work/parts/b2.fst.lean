/-! THE FIRST MEMORY behind the constructors *-/
def PJ (f : Nat → Option Nat) : Prop := ∀ j, 24 ≤ j → f j = none
theorem pj_n : PJ (fun _ => none) := fun _ _ => rfl
theorem pj_br {k : Nat} {a b : Nat → Option Nat} (hk : k ≤ 24) (hb : PJ b) : PJ (zeBr k a b) := fun j hj => by
  show cond (Nat.ble k j) (b j) (a j) = none
  rw [ble_t (show k ≤ j by omega)]; exact hb j hj
theorem pj_o {k : Nat} {A B : Nat → Nat → Option Nat} {i : Nat} (hA : PJ (A i)) (hB : PJ (B i)) : PJ (zeBr k A B i) := by
  show PJ (cond (Nat.ble k i) (B i) (A i))
  cases Nat.ble k i with
  | true => exact hB
  | false => exact hA
theorem pj_Rs (x a : Nat) : PJ (zeRs x a) := by
  unfold zeRs
  repeat' (first | exact pj_n | apply pj_o | apply pj_br (by decide))
def rmZ : zRm := fun a => cond (Nat.blt a 16) (zeRs 0 a) (fun _ => none)
def imZ (w : zI) : zI := fun a => cond (Nat.blt a 16) (w a) (fun _ => 0)
def lmZ : zJ := fun _ _ => 0
theorem Zs_0 (w : zI) : Zs 0 rmZ (imZ w) lmZ := by
  refine ⟨fun a ha => ?_, fun a ha => ?_, fun a ha => rfl⟩
  · unfold rmZ; rw [blt_f (show 16 ≤ a by omega)]; rfl
  · unfold imZ; rw [blt_f (show 16 ≤ a by omega)]; rfl
theorem RJ_0 : RJ rmZ := fun a j hj => by
  show cond (Nat.blt a 16) (zeRs 0 a) (fun _ => none) j = none
  cases Nat.blt a 16 with
  | true => exact pj_Rs 0 a j hj
  | false => rfl
set_option maxRecDepth 100000 in
theorem rm_fin : ∀ a, a < 170 → ∀ j, j < 24 → rC_41 rmZ a j = zeRs 0 a j := by decide +kernel
theorem zc_zk {len sl : Nat} {im : zI} {lm : zJ} (hsl : sl = 3690) (hz : Zs 154 (rC_41 rmZ) im lm) : zc len 154 sl (rC_41 rmZ) im lm = zk (gB len 154) im lm := by
  have e1 : KDt 154 = zkK (gB len 154) := by
    funext a
    show cond (Nat.blt a 170) (zeKs a) 0 = cond (Nat.ble 170 a) (cond (Nat.blt a (16 + 154)) 40 0) (zeKs a)
    by_cases g : a < 170
    · rw [blt_t g, ble_f g]; rfl
    · rw [blt_f (by omega), ble_t (show 170 ≤ a by omega)]; rfl
  have e2 : LNt len 154 = zkL (gB len 154) := by
    funext a
    show cond (Nat.blt a 170) (zeLs len a) 0 = cond (Nat.ble 170 a) (cond (Nat.blt a (16 + 154)) 6 0) (zeLs len a)
    by_cases g : a < 170
    · rw [blt_t g, ble_f g]; rfl
    · rw [blt_f (by omega), ble_t (show 170 ≤ a by omega)]; rfl
  have e3 : rC_41 rmZ = zkR (gB len 154) := by
    funext a j
    show rC_41 rmZ a j = cond (Nat.ble 170 a) (fun _ => none) (zeRs 0 a) j
    by_cases g : a < 170
    · rw [ble_f g]
      show _ = zeRs 0 a j
      by_cases g2 : j < 24
      · exact rm_fin a g j g2
      · rw [rj_41 RJ_0 a j (by omega), pj_Rs 0 a j (by omega)]
    · rw [ble_t (show 170 ≤ a by omega), hz.1 a (by omega)]; rfl
  subst hsl
  show (true, 154, 3690, KDt 154, LNt len 154, rC_41 rmZ, im, lm) = _
  rw [e1, e2, e3]; rfl
