/-! THE TEXT BUFFER: its capacity *-/
def BB (B : zeB) (cap : Nat) : Prop := zkK B B.buf = 42 ∧ zkL B B.buf = cap ∧ (B.buf = 169 ∨ 187 ≤ B.buf) ∧ B.buf < 16 + B.1 ∧ 187 ≤ 16 + B.1 ∧ 16 ≤ cap ∧ cap ≤ 172 ∧ ∃ g, B.1 ≤ 171 + g ∧ 18 * 2 ^ g ≤ cap + 2 ∧ B.2.1 ≤ 100000 + 172 * g
/-- the buffer's part of two memories -/
def GR (B : zeB) (im : zI) (lm : zJ) (B' : zeB) (im' : zI) (lm' : zJ) (cap : Nat) : Prop := (∀ a, a < 187 → im' a = im a ∧ lm' a = lm a) ∧ (∀ j, j < cap → im' B'.buf j = im B.buf j) ∧ B'.len = B.len
theorem and31_0 : (0 : Int32) &&& 31 = 0 := by decide
theorem shl_0 (x : Int32) : x <<< ((0 : Int32) &&& 31) = x := by rw [and31_0]; exact Int32.shiftLeft_zero
theorem shr_0 (x : Int32) : x >>> ((0 : Int32) &&& 31) = x := by rw [and31_0]; exact Int32.shiftRight_zero
def ncap (cap m : Nat) : Nat := if m ≤ 2 * cap + 2 then 2 * cap + 2 else m
theorem jb180 {B : zeB} {im : zI} {lm : zJ} (cap m : Nat) (h : cap < m) (hm : m ≤ 1000) : zeRun 180 0 [some (.int (nn cap)), some (.int (nn (m - cap))), some (.int (nn (cap + 2))), none] [] (zk B im lm) = some (some (.int (nn (ncap cap m))), zk B im lm) := by
  have e : nn cap + (if nn (m - cap) < nn (cap + 2) then nn (cap + 2) else nn (m - cap)) = nn (ncap cap m) := by
    have hl : (nn (m - cap) < nn (cap + 2)) = (m - cap < cap + 2) := nn_lt _ _ (by omega) (by omega)
    simp only [hl]
    unfold ncap
    by_cases g : m - cap < cap + 2
    · rw [if_pos g, if_pos (by omega), nn_add]; congr 1; omega
    · rw [if_neg g, nn_add]
      by_cases g2 : m ≤ 2 * cap + 2
      · rw [if_pos g2]; congr 1; omega
      · rw [if_neg g2]; congr 1; omega
  have hb : 0 < ncap cap m ∧ ncap cap m ≤ 3000 := by unfold ncap; by_cases g : m ≤ 2 * cap + 2 <;> simp only [g, if_true, if_false] <;> omega
  rw [b_180_0, e, if_neg (show ¬ nn (ncap cap m) ≤ 0 from nn_ge 0 _ hb.1 (by omega)), b_180_13]
  have : ¬ (2147483639 : Int32) < nn (ncap cap m) := by
    rw [show (2147483639 : Int32) = nn 2147483639 from rfl, nn_lt _ _ (by omega) (by omega)]; omega
  rw [if_neg this, b_180_19]
theorem jb181 {B : zeB} {im : zI} {lm : zJ} {cap : Nat} (hB : BB B cap) (hc : im 168 1 = 0) (m : Nat) (h : cap < m) (hm : m ≤ 1000) : zeRun 181 0 [some (.ref 168), some (.int (nn m)), none, none, none, none] [] (zk B im lm) = some (some (.int (nn (ncap cap m))), zk B im lm) := by
  obtain ⟨h1, h2, _, _, _, h6, h7, _⟩ := hB
  have hb : 0 < ncap cap m ∧ ncap cap m ≤ 3000 := by unfold ncap; by_cases g : m ≤ 2 * cap + 2 <;> simp only [g, if_true, if_false] <;> omega
  rw [b_181_0, ze_st1 (t := zt_181) rfl rfl (o_len h1 _ _ _ _ _), h2, b_181_5, hc, shl_0, shl_0, nn_sub _ _ (by omega) (by omega), show nn cap + 2 = nn (cap + 2) from nn_addr cap 2, jb180 cap m h hm, zeBh_s, b_181_32]
  have : ¬ nn (ncap cap m) = 2147483647 := by
    rw [show (2147483647 : Int32) = nn 2147483647 from rfl, nn_inj _ _ (by omega) (by omega)]; omega
  rw [if_neg this, b_181_51, hc, shr_0]
theorem tn_0 : (0 : Int32).toNatClampNeg = 0 := rfl
theorem cp_ok (sp dp k l0 l1 : Nat) (h1 : sp + k ≤ l0) (h2 : dp + k ≤ l1) (h : l0 < 2147483648) (h' : l1 < 2147483648) : zeCpOk (nn sp) (nn dp) (nn k) l0 l1 = true := by
  unfold zeCpOk
  rw [decide_eq_false (nn_neg sp (by omega)), decide_eq_false (nn_neg dp (by omega)), decide_eq_false (nn_neg k (by omega)), tn_nn _ (by omega), tn_nn _ (by omega), tn_nn _ (by omega), ble_t h1, ble_t h2]
  rfl
/-- the buffer copied into a longer one -/
theorem jb182 {B : zeB} {im : zI} {lm : zJ} {cap : Nat} (hB : BB B cap) (m : Nat) (h : cap < m) (hm : m ≤ 1000) : zeRun 182 0 [some (.ref B.buf), some (.int (nn m)), none] [] (zk B im lm) = some (some (.ref (16 + B.1)), zk (nwB B m) (zeCpy (zeU1 im (16 + B.1) (fun _ => 0)) B.buf 0 (16 + B.1) 0 cap) (zeU1 lm (16 + B.1) (fun _ => 0))) := by
  obtain ⟨h1, h2, h3, h4, h5, h6, h7, _⟩ := hB
  have hne : ¬ B.buf = 16 + B.1 := by omega
  have k1 : zkK (nwB B m) B.buf = 42 := by
    rw [← h1]
    show cond (Nat.ble 187 B.buf) (if B.buf = 16 + B.1 then 42 else B.kb B.buf) (zeKs B.buf) = cond (Nat.ble 187 B.buf) (B.kb B.buf) (zeKs B.buf)
    rw [if_neg hne]
  have k2 : zkL (nwB B m) B.buf = cap := by
    rw [← h2]
    show cond (Nat.ble 187 B.buf) (if B.buf = 16 + B.1 then m else B.lb B.buf) (zeLs B.len B.buf) = cond (Nat.ble 187 B.buf) (B.lb B.buf) (zeLs B.len B.buf)
    rw [if_neg hne]
  have k3 : zkK (nwB B m) (16 + B.1) = 42 := by
    show cond (Nat.ble 187 (16 + B.1)) (if 16 + B.1 = 16 + B.1 then 42 else B.kb (16 + B.1)) (zeKs (16 + B.1)) = 42
    rw [if_pos rfl, ble_t h5]; rfl
  have k4 : zkL (nwB B m) (16 + B.1) = m := by
    show cond (Nat.ble 187 (16 + B.1)) (if 16 + B.1 = 16 + B.1 then m else B.lb (16 + B.1)) (zeLs B.len (16 + B.1)) = m
    rw [if_pos rfl, ble_t h5]; rfl
  have hmc : ¬ nn m = nn cap := by rw [nn_inj _ _ (by omega) (by omega)]; omega
  have hlt : nn m < nn cap ↔ m < cap := by rw [nn_lt _ _ (by omega) (by omega)]
  have a1 : ∀ {B2 : zeB} {im2 : zI} {lm2 : zJ} (b nb : Nat), zeRun 182 14 [some (.ref b), some (.int (nn m)), none] [] (zk B2 im2 lm2) = zeRun 182 15 [some (.ref b), some (.int (nn m)), none] [.int (nn m)] (zk B2 im2 lm2) := fun b nb => ze_go (ok := true) rfl 1 rfl rfl
  have a2 : ∀ {B2 : zeB} {im2 : zI} {lm2 : zJ} (b nb : Nat), zeRun 182 17 [some (.ref b), some (.int (nn m)), none] [.ref nb] (zk B2 im2 lm2) = zeRun 182 23 [some (.ref b), some (.int (nn m)), some (.ref nb)] [.ref b, .int 0, .ref nb, .int 0, .ref b] (zk B2 im2 lm2) := fun b nb => ze_go (ok := true) rfl 6 rfl rfl
  have a3 : ∀ {B2 : zeB} {im2 : zI} {lm2 : zJ} (b nb : Nat) (x : Int32), zeRun 182 24 [some (.ref b), some (.int (nn m)), some (.ref nb)] [.int x, .int 0, .ref nb, .int 0, .ref b] (zk B2 im2 lm2) = zeRun 182 28 [some (.ref b), some (.int (nn m)), some (.ref nb)] [.int (if nn m < x then nn m else x), .int 0, .ref nb, .int 0, .ref b] (zk B2 im2 lm2) := fun b nb x => ze_go (ok := true) rfl 2 rfl rfl
  have a4 : ∀ {B2 : zeB} {im2 : zI} {lm2 : zJ} (b nb : Nat), zeRun 182 31 [some (.ref b), some (.int (nn m)), some (.ref nb)] [] (zk B2 im2 lm2) = zeRun 182 32 [some (.ref b), some (.int (nn m)), some (.ref nb)] [.ref nb] (zk B2 im2 lm2) := fun b nb => ze_go (ok := true) rfl 1 rfl rfl
  rw [b_182_0, ze_st1 (t := zt_182) rfl rfl (o_len h1 _ _ _ _ _), h2, b_182_3, if_neg hmc, a1 _ (16 + B.1), ze_st1 (t := zt_182) rfl rfl (o_new h5 hm _ _ _ _ _), a2, ze_st1 (t := zt_182) rfl rfl (o_len k1 _ _ _ _ _), k2, a3, if_neg (by rw [hlt]; omega), ze_st1 (t := zt_182) rfl rfl (o_cp k3 k1 (by rw [k2, k4]; exact cp_ok 0 0 cap cap m (by omega) (by omega) (by omega) (by omega)) _ _ _ _), a4, ze_rt1 (t := zt_182) rfl rfl (o_ra (Nat.le_add_right 16 B.1) _ _), tn_0, tn_nn _ (by omega)]
/-- room for m characters -/
theorem jb183 {B : zeB} {im : zI} {lm : zJ} {cap : Nat} (hB : BB B cap) (hc : im 168 1 = 0) (m : Nat) (hm : m ≤ 85) : ∃ B' im' lm' cap', zeRun 183 0 [some (.ref 168), some (.int (nn m)), none] [] (zk B im lm) = some (none, zk B' im' lm') ∧ BB B' cap' ∧ m ≤ cap' ∧ cap ≤ cap' ∧ GR B im lm B' im' lm' cap := by
  obtain ⟨h1, h2, h3, h4, h5, h6, h7, g, g1, g2, g3⟩ := id hB
  have hst : zeRun 183 0 [some (.ref 168), some (.int (nn m)), none] [] (zk B im lm) = if m ≤ cap then zeRun 183 38 [some (.ref 168), some (.int (nn m)), some (.int (nn cap))] [] (zk B im lm) else zeRun 183 17 [some (.ref 168), some (.int (nn m)), some (.int (nn cap))] [] (zk B im lm) := by
    rw [b_183_0, ze_st1 (t := zt_183) rfl rfl (o_len h1 _ _ _ _ _), h2, b_183_5, hc, shr_0]
    by_cases gm : m ≤ cap
    · rw [if_pos gm]
      have : nn m - nn cap ≤ 0 := by
        by_cases ge : m = cap
        · subst ge; rw [nn_sub _ _ (Nat.le_refl _) (by omega), Nat.sub_self]; exact Int32.le_refl _
        · have e : nn m - nn cap = -(nn (cap - m)) := by
            rw [← nn_sub cap m (by omega) (by omega), Int32.neg_sub]
          rw [e, Int32.le_iff_toInt_le, Int32.toInt_neg, ti_nn _ (by omega), show (0 : Int32).toInt = 0 from rfl, Int.bmod_eq_of_le (by omega) (by omega)]
          omega
      rw [if_pos this]
    · rw [if_neg gm]
      have : ¬ nn m - nn cap ≤ 0 := by
        rw [nn_sub _ _ (by omega) (by omega)]; exact nn_ge 0 _ (by omega) (by omega)
      rw [if_neg this]
  rw [hst]
  by_cases gm : m ≤ cap
  · rw [if_pos gm, b_183_38]
    exact ⟨B, im, lm, cap, rfl, hB, gm, Nat.le_refl _, fun a _ => ⟨rfl, rfl⟩, fun j _ => rfl, rfl⟩
  · rw [if_neg gm]
    have hn : cap < ncap cap m ∧ ncap cap m ≤ 172 ∧ m ≤ ncap cap m ∧ 2 * cap + 2 ≤ ncap cap m := by
      unfold ncap
      by_cases g : m ≤ 2 * cap + 2
      · rw [if_pos g]; omega
      · rw [if_neg g]; omega
    rw [b_183_17, jb181 hB hc m (by omega) (by omega), zeBh_s, b_183_27, hc, shl_0, jb182 hB _ hn.1 (by omega), zeBh_s, ze_st1 (t := zt_183) rfl rfl (o_pr (by omega) _ _ _ _), b_183_38]
    refine ⟨_, _, _, ncap cap m, rfl, ⟨?_, ?_, Or.inr h5, ?_, ?_, by omega, hn.2.1, g + 1, ?_, ?_, ?_⟩, hn.2.2.1, by omega, ?_, ?_, rfl⟩
    · show cond (Nat.ble 187 (16 + B.1)) (if 16 + B.1 = 16 + B.1 then 42 else B.kb (16 + B.1)) (zeKs (16 + B.1)) = 42
      rw [if_pos rfl, ble_t h5]; rfl
    · show cond (Nat.ble 187 (16 + B.1)) (if 16 + B.1 = 16 + B.1 then ncap cap m else B.lb (16 + B.1)) (zeLs B.len (16 + B.1)) = ncap cap m
      rw [if_pos rfl, ble_t h5]; rfl
    · show 16 + B.1 < 16 + (B.1 + 1); omega
    · show 187 ≤ 16 + (B.1 + 1); omega
    · show B.1 + 1 ≤ 171 + (g + 1); omega
    · have : 2 ^ (g + 1) = 2 ^ g * 2 := Nat.pow_succ ..
      omega
    · show B.2.1 + ncap cap m ≤ 100000 + 172 * (g + 1); omega
    · intro a ha
      have hna : ¬ a = 16 + B.1 := by omega
      refine ⟨?_, ?_⟩
      · funext j
        show (if a = 16 + B.1 then _ else (if a = 16 + B.1 then (fun _ => 0) else im a) j) = im a j
        rw [if_neg hna, if_neg hna]
      · show (if a = 16 + B.1 then (fun _ => 0) else lm a) = lm a
        rw [if_neg hna]
    · intro j hj
      show (if 16 + B.1 = 16 + B.1 then (if 0 ≤ j ∧ j < 0 + cap then (if B.buf = 16 + B.1 then (fun _ => 0) else im B.buf) (0 + (j - 0)) else (if 16 + B.1 = 16 + B.1 then (fun _ => (0 : Int32)) else im (16 + B.1)) j) else _) = im B.buf j
      rw [if_pos rfl, if_pos ⟨Nat.zero_le _, by omega⟩, if_neg (by omega)]
      congr 1; omega
