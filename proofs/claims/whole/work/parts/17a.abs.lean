/-! Math.abs of ints, sound -/
def zoAbs (n : Nat) : zeOp := fun L st μ => match st with
  | .int x :: st' => cond (Nat.ble st'.length 4) (zeNx n L (.int (if 0 ≤ x then x else 0 - x) :: st') μ) none
  | _ => none
theorem zs_abs {G : zeG} {i pc n : Nat} {own : String} {index : Nat} (ho : (zeNam i).cls = own) (hlink : Cond.methodLink own index Lib.Math.abs.name ∈ zeBT) (hstat : Cond.static Lib.Math.abs.name ∈ zeBT) (hini : Cond.initialized "java/lang/Math" ∈ zeBT) (hcode : Cond.code Lib.Math.abs.name Lib.Math.abs.code 1 (some .int) ∈ zeBT) (hdp : 1 ≤ zeDp i) (hlc : 21 ≤ zeLc i) (hd : decode (zeCod i) pc = .ok (.invokestatic index, 3)) (hn : pc + 3 = n) : zeSnd G i pc (zoAbs n) := by
  subst hn
  refine zs_st (fun L st μ x e => ?_) fun L st μ pc' L' st' μ' e => ?_
  · unfold zoAbs at e
    split at e
    · rename_i x st'
      cases hk : Nat.ble st'.length 4 <;> rw [hk] at e
      · cases e
      · cases zeNx_i e
    · cases e
  · unfold zoAbs at e
    split at e
    · rename_i x st'
      cases hk : Nat.ble st'.length 4 <;> rw [hk] at e
      · cases e
      · cases zeNx_i e
        have hk := Nat.le_of_ble_eq_true hk
        refine ⟨rfl, true, rfl, fun _ _ p l e R s m args below meth c Q H locs ls cells slots hcx hD hL hc hs _ _ hsz K => ?_⟩
        exact va_mabs hcx.1 hcx.2.1 (hcx.ml.trans hsz.symm) (ho ▸ hcx.own) (hcx.ws _ hlink) (hcx.ws _ hstat) (hcx.ws _ hini) (hcx.ws _ hcode) (by omega) (by have := zeCats hcx.gv st'; omega) hc hs hd K
    · cases e
