/-! THE CLASS: one entry of its replay -/
def zfY (im : zI) (k P : Nat) (s jd t a cl : Int32) (w : Bool) (b j : Nat) : Int32 := if b = 38 ∧ j = k then a else if b = 33 ∧ j = P then (if s = 4 then im 33 P + t else if jd = 1 then im 33 P + a else im 33 P - a) else if b = 39 ∧ j = k then (if s = 4 then im 33 P + t else if jd = 1 then im 33 P + a else im 33 P - a) else if b = 36 ∧ j = P then im 36 P + (if s = 4 then t else 0) else if b = 34 ∧ j = P then im 34 P + (if ¬ s = 4 ∧ jd = 1 ∧ ¬ w = true then 1 else 0) else if b = 35 ∧ j = P then im 35 P + (if ¬ s = 4 ∧ ¬ jd = 1 ∧ ¬ w = true then 1 else 0) else if b = 37 ∧ (cl = nn j ∧ j < 25) ∧ ¬ s = 4 ∧ jd = 1 ∧ ¬ w = true then nn P else if b = 32 ∧ j = 0 ∧ ¬ s = 4 ∧ jd = 1 ∧ ¬ w = true ∧ ¬ cl < 0 then nn P else im b j
theorem nn_neg (c : Nat) (h : c < 2147483648) : ¬ (nn c < 0) := by
  rw [show (0 : Int32) = nn 0 from rfl, nn_lt _ _ h (by omega)]; omega
theorem nn_ge (c n : Nat) (h : c < n) (hn : n < 2147483648) : ¬ (nn n ≤ nn c) := by
  rw [nn_le _ _ hn (by omega)]; omega
theorem j86 (im : zI) (lm : zJ) (k P : Nat) (t a s cl jd : Int32) (w : Bool) (hk : k < 60) (hP : P < 6) (h28 : im 28 k = s) (h29 : im 29 k = cl) (h31 : im 31 k = jd) (h40 : im 40 k = zb (w = true)) (hcl : cl = -10000005 ∨ ∃ c, c < 25 ∧ cl = nn c) : ∃ im2, J_75_94 (nn k) (nn P) t (nn k) a im lm = some (0, im2, lm) ∧ ∀ b j, im2 b j = zfY im k P s jd t a cl w b j := by
  unfold J_75_94
  simp (disch := omega) only [nn_mull, nn_mulr, nn_addl, nn_addr, nn_add, nn_mul, tn_nn, tn_l, inb_nn, inb_l, zCk_t, ite_self, zBd_s, u2_s, u2n, h28, h29, h31, h40]
  by_cases hs : s = 4
  · subst hs
    simp only [if_true]
    unfold J_75_212
    simp (disch := omega) only [nn_mull, nn_mulr, nn_addl, nn_addr, nn_add, nn_mul, tn_nn, tn_l, inb_nn, inb_l, zCk_t, ite_self, zBd_s, u2_s, u2n]
    refine ⟨_, rfl, ?_⟩
    intro b j
    unfold zfY
    by_cases g1 : b = 38
    · subst g1; simp [u2_e]
    by_cases g2 : b = 33
    · subst g2; simp [u2_e]
    by_cases g3 : b = 39
    · subst g3; simp [u2_e]
    by_cases g4 : b = 36
    · subst g4; simp [u2_e]
    by_cases g5 : b = 34
    · subst g5; simp (config := { contextual := true }) [u2_e]
    by_cases g6 : b = 35
    · subst g6; simp (config := { contextual := true }) [u2_e]
    · simp [u2_e, g1, g2, g3, g4, g5, g6]
  · rw [if_neg hs]
    by_cases hj : jd = 1
    · subst hj
      simp only [if_true, zb_0]
      cases w
      · simp only [Bool.false_eq_true, not_false_eq_true, if_true]
        unfold m_74
        rcases hcl with hcl | ⟨c, hc, hcl⟩
        · subst hcl
          simp (disch := omega) only [nn_mull, nn_mulr, nn_addl, nn_addr, nn_add, nn_mul, tn_nn, tn_l, inb_nn, inb_l, zCk_t, ite_self, zBd_s, u2_s, u2n, show ((-10000005 : Int32) < 0) = True from by decide, if_true]
          unfold J_75_212
          simp (disch := omega) only [nn_mull, nn_mulr, nn_addl, nn_addr, nn_add, nn_mul, tn_nn, tn_l, inb_nn, inb_l, zCk_t, ite_self, zBd_s, u2_s, u2n]
          refine ⟨_, rfl, ?_⟩
          intro b j
          unfold zfY
          by_cases g1 : b = 38
          · subst g1; simp [u2_e]
          by_cases g2 : b = 33
          · subst g2; simp [u2_e, hs]
          by_cases g3 : b = 39
          · subst g3; simp [u2_e, hs]
          by_cases g4 : b = 36
          · subst g4; simp (config := { contextual := true }) [u2_e, hs]
          by_cases g5 : b = 34
          · subst g5; simp [u2_e, hs]
          by_cases g6 : b = 35
          · subst g6; simp (config := { contextual := true }) [u2_e, hs]
          by_cases g7 : b = 37
          · subst g7
            have : ¬ (-10000005 = nn j ∧ j < 25) := fun h => nn_nn j (by omega) h.1.symm
            simp [u2_e, this]
          by_cases g8 : b = 32
          · subst g8; simp [u2_e]
          · simp [u2_e, g1, g2, g3, g4, g5, g6, g7, g8]
        · subst hcl
          simp (disch := omega) only [nn_mull, nn_mulr, nn_addl, nn_addr, nn_add, nn_mul, tn_nn, tn_l, inb_nn, inb_l, zCk_t, ite_self, zBd_s, u2_s, u2n, nn_neg c (by omega), show ((25 : Int32) ≤ nn c) = False from eq_false (nn_ge c 25 hc (by omega)), if_false, show ((1 : Int32) = 0) = False from by decide]
          unfold J_75_212
          simp (disch := omega) only [nn_mull, nn_mulr, nn_addl, nn_addr, nn_add, nn_mul, tn_nn, tn_l, inb_nn, inb_l, zCk_t, ite_self, zBd_s, u2_s, u2n]
          refine ⟨_, rfl, ?_⟩
          intro b j
          unfold zfY
          by_cases g1 : b = 38
          · subst g1; simp [u2_e]
          by_cases g2 : b = 33
          · subst g2; simp [u2_e, hs]
          by_cases g3 : b = 39
          · subst g3; simp [u2_e, hs]
          by_cases g4 : b = 36
          · subst g4; simp (config := { contextual := true }) [u2_e, hs]
          by_cases g5 : b = 34
          · subst g5; simp [u2_e, hs]
          by_cases g6 : b = 35
          · subst g6; simp (config := { contextual := true }) [u2_e, hs]
          by_cases g7 : b = 37
          · subst g7
            by_cases g : j = c
            · subst g; simp [u2_e, hs, hc]
            · have : ¬ (nn c = nn j ∧ j < 25) := fun h => by
                have h1 := h.1
                rw [nn_inj _ _ (by omega) (by omega)] at h1
                exact g h1.symm
              simp [u2_e, g, this]
          by_cases g8 : b = 32
          · subst g8; simp [u2_e, hs, nn_neg c (by omega)]
          · simp [u2_e, g1, g2, g3, g4, g5, g6, g7, g8]
      · simp only [not_true_eq_false, if_false]
        unfold J_75_212
        simp (disch := omega) only [nn_mull, nn_mulr, nn_addl, nn_addr, nn_add, nn_mul, tn_nn, tn_l, inb_nn, inb_l, zCk_t, ite_self, zBd_s, u2_s, u2n]
        refine ⟨_, rfl, ?_⟩
        intro b j
        unfold zfY
        by_cases g1 : b = 38
        · subst g1; simp [u2_e]
        by_cases g2 : b = 33
        · subst g2; simp [u2_e, hs]
        by_cases g3 : b = 39
        · subst g3; simp [u2_e, hs]
        by_cases g4 : b = 36
        · subst g4; simp (config := { contextual := true }) [u2_e, hs]
        by_cases g5 : b = 34
        · subst g5; simp (config := { contextual := true }) [u2_e, hs]
        by_cases g6 : b = 35
        · subst g6; simp (config := { contextual := true }) [u2_e, hs]
        · simp [u2_e, g1, g2, g3, g4, g5, g6]
    · rw [if_neg hj]
      unfold J_75_212
      cases w
      · simp (disch := omega) only [nn_mull, nn_mulr, nn_addl, nn_addr, nn_add, nn_mul, tn_nn, tn_l, inb_nn, inb_l, zCk_t, ite_self, zBd_s, u2_s, u2n, zb_0, Bool.false_eq_true, not_false_eq_true, if_true]
        refine ⟨_, rfl, ?_⟩
        intro b j
        unfold zfY
        by_cases g1 : b = 38
        · subst g1; simp [u2_e]
        by_cases g2 : b = 33
        · subst g2; simp [u2_e, hs, hj]
        by_cases g3 : b = 39
        · subst g3; simp [u2_e, hs, hj]
        by_cases g4 : b = 36
        · subst g4; simp (config := { contextual := true }) [u2_e, hs]
        by_cases g5 : b = 34
        · subst g5; simp (config := { contextual := true }) [u2_e, hs, hj]
        by_cases g6 : b = 35
        · subst g6; simp [u2_e, hs, hj]
        · simp [u2_e, g1, g2, g3, g4, g5, g6, hj]
      · simp (disch := omega) only [nn_mull, nn_mulr, nn_addl, nn_addr, nn_add, nn_mul, tn_nn, tn_l, inb_nn, inb_l, zCk_t, ite_self, zBd_s, u2_s, u2n, zb_0, not_true_eq_false, if_false]
        refine ⟨_, rfl, ?_⟩
        intro b j
        unfold zfY
        by_cases g1 : b = 38
        · subst g1; simp [u2_e]
        by_cases g2 : b = 33
        · subst g2; simp [u2_e, hs, hj]
        by_cases g3 : b = 39
        · subst g3; simp [u2_e, hs, hj]
        by_cases g4 : b = 36
        · subst g4; simp (config := { contextual := true }) [u2_e, hs]
        by_cases g5 : b = 34
        · subst g5; simp (config := { contextual := true }) [u2_e, hs, hj]
        by_cases g6 : b = 35
        · subst g6; simp (config := { contextual := true }) [u2_e, hs, hj]
        · simp [u2_e, g1, g2, g3, g4, g5, g6, hj]
