/-! THE MODEL: small methods -/
theorem s_at {B : zeB} {im : Nat → Nat → Int32} {lm : Nat → Nat → Int64} (k : Nat) : zeRun 45 0 [some (.int (nn k))] [] (zk B im lm) = some (some (.int (nn (60 + 5 * k))), zk B im lm) := by
  rw [b_45_0, nn_mull, nn_addl]
/-- entry k of row R is a steal that doesn't count: sort 1, and an answer to its clue before it, of sort 0 or 1, was right -/
def vdF (R : Nat → Int32) (k j : Nat) (a : Bool) : Bool := a || (!decide (2 ≤ R (60 + 5 * j + 1)) && (decide (R (60 + 5 * j + 2) = R (60 + 5 * k + 2)) && decide (R (60 + 5 * j + 4) = 1)))
def vd (R : Nat → Int32) (k : Nat) : Bool := decide (R (60 + 5 * k + 1) = 1) && zIt (vdF R k) k 0 false
theorem s_vd_step {B : zeB} {im : Nat → Nat → Int32} {lm : Nat → Nat → Int64} (k j : Nat) (a : Bool) (hk : k < 60) (hj : j < k) (h1 : im 171 (60 + 5 * k + 1) = 1) : zeRun 46 4 [some (.ref 170), some (.int (nn k)), some (.int (zb (a = true))), some (.int (nn j))] [] (zk B im lm) = zeRun 46 4 [some (.ref 170), some (.int (nn k)), some (.int (zb (vdF (im 171) k j a = true))), some (.int (nn (j + 1)))] [] (zk B im lm) := by
  have e0 : ¬ (nn k ≤ nn j) := by rw [nn_le _ _ (by omega) (by omega)]; omega
  have e1 : zeInb (nn (60 + 5 * k) + 1) 360 = true := by rw [nn_addr]; exact inb_nn _ _ (by omega) (by omega)
  have e2 : zeInb (nn (60 + 5 * k) + 2) 360 = true := by rw [nn_addr]; exact inb_nn _ _ (by omega) (by omega)
  have e3 : zeInb (nn (60 + 5 * j) + 1) 360 = true := by rw [nn_addr]; exact inb_nn _ _ (by omega) (by omega)
  have e4 : zeInb (nn (60 + 5 * j) + 2) 360 = true := by rw [nn_addr]; exact inb_nn _ _ (by omega) (by omega)
  have e5 : zeInb (nn (60 + 5 * j) + 4) 360 = true := by rw [nn_addr]; exact inb_nn _ _ (by omega) (by omega)
  have t1 : Int32.toNatClampNeg (nn (60 + 5 * k) + 1) = 60 + 5 * k + 1 := by rw [nn_addr]; exact tn_nn _ (by omega)
  have t2 : Int32.toNatClampNeg (nn (60 + 5 * k) + 2) = 60 + 5 * k + 2 := by rw [nn_addr]; exact tn_nn _ (by omega)
  have t3 : Int32.toNatClampNeg (nn (60 + 5 * j) + 1) = 60 + 5 * j + 1 := by rw [nn_addr]; exact tn_nn _ (by omega)
  have t4 : Int32.toNatClampNeg (nn (60 + 5 * j) + 2) = 60 + 5 * j + 2 := by rw [nn_addr]; exact tn_nn _ (by omega)
  have t5 : Int32.toNatClampNeg (nn (60 + 5 * j) + 4) = 60 + 5 * j + 4 := by rw [nn_addr]; exact tn_nn _ (by omega)
  have n1 : nn j + 1 = nn (j + 1) := nn_addr j 1
  rw [b_46_4_f (hc := e0), b_46_9, s_at, zeBh_s, b_46_17_t (c0 := e1) (hc := by rw [t1]; exact h1)]
  unfold vdF
  cases a
  · by_cases h2 : 2 ≤ im 171 (60 + 5 * j + 1) <;> by_cases h3 : im 171 (60 + 5 * j + 2) = im 171 (60 + 5 * k + 2) <;> by_cases h4 : im 171 (60 + 5 * j + 4) = 1 <;> simp [b_46_24, b_46_28, b_46_36, b_46_43, b_46_51, b_46_62, b_46_68, b_46_76, b_46_83, b_46_87, s_at, zeBh_s, e2, e3, e4, e5, t2, t3, t4, t5, n1, h2, h3, h4, zb, eq_comm]
  · simp [b_46_24, b_46_83, n1, zb]
theorem s_vd {B : zeB} {im : Nat → Nat → Int32} {lm : Nat → Nat → Int64} (k : Nat) (hk : k < 60) : zeRun 46 0 [some (.ref 170), some (.int (nn k)), none, none] [] (zk B im lm) = some (some (.int (zb (vd (im 171) k = true))), zk B im lm) := by
  have e1 : zeInb (nn (60 + 5 * k) + 1) 360 = true := by rw [nn_addr]; exact inb_nn _ _ (by omega) (by omega)
  have t1 : Int32.toNatClampNeg (nn (60 + 5 * k) + 1) = 60 + 5 * k + 1 := by rw [nn_addr]; exact tn_nn _ (by omega)
  rw [b_46_0]
  show zeRun 46 4 [some (.ref 170), some (.int (nn k)), some (.int (zb (false = true))), some (.int (nn 0))] [] (zk B im lm) = _
  by_cases h1 : im 171 (60 + 5 * k + 1) = 1
  · have hl := (z_loop (i := 46) (h := 4) (n := k) (fun j (a : Bool) => [some (.ref 170), some (.int (nn k)), some (.int (zb (a = true))), some (.int (nn j))]) (fun _ _ => zk B im lm) (vdF (im 171) k) (fun _ _ => True) (fun j a hj _ => ⟨s_vd_step k j a hk hj h1, trivial⟩) k 0 false (by omega) trivial).1
    have e2 : vd (im 171) k = zIt (vdF (im 171) k) k 0 false := by unfold vd; rw [decide_eq_true h1, Bool.true_and]
    rw [← e2] at hl
    refine hl.trans ?_
    rw [b_46_4_t (hc := Int32.le_refl _), b_46_95 (c0 := zb_nok _)]
  · have e2 : vd (im 171) k = false := by unfold vd; rw [decide_eq_false h1, Bool.false_and]
    rw [e2]
    by_cases hk0 : k = 0
    · subst hk0
      rw [b_46_4_t (hc := Int32.le_refl _), b_46_95 (c0 := zb_nok _)]
    · have e0 : ¬ (nn k ≤ nn 0) := by rw [nn_le _ _ (by omega) (by omega)]; omega
      rw [b_46_4_f (hc := e0), b_46_9, s_at, zeBh_s, b_46_17_f (c0 := e1) (hc := by rw [t1]; exact h1), b_46_95 (c0 := zb_nok _)]
