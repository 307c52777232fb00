/-! ACTS: wagerFinal of the model *-/
theorem s111 {R Q : Nat → Int32} (hG : GD R) (lm : zJ) (im : zI) (hQ : im 171 = Q) (h1 : Q 1 = nn (rN R)) (hF : ∀ p, p < 6 → Q (22 + p) = -1 ∨ ∃ w, w ≤ 100000 ∧ Q (22 + p) = nn w) : ∀ d k n, k + d = rN R → d < n → F_111_118 n (nn (cntN (wnB Q) k)) (nn k) im lm = some (nn (cntN (wnB Q) (rN R)), zeU2 im 171 0 (if cntN (wnB Q) (rN R) = 0 then 5 else 4), lm) := by
  have h6 := hG.1.2
  intro d
  induction d with
  | zero =>
    intro k n hk hn
    obtain ⟨m, rfl⟩ : ∃ m, n = m + 1 := ⟨n - 1, by omega⟩
    have : k = rN R := by omega
    subst this
    unfold F_111_118 J_111_189
    rw [hQ, h1, if_pos (Int32.le_refl _)]
    simp (disch := omega) only [nn_mull, nn_mulr, nn_addl, nn_addr, nn_add, nn_mul, tn_nn, tn_l, inb_nn, inb_l, zCk_t, ite_self, zBd_s]
    have hz : (nn (cntN (wnB Q) (rN R)) = 0) = (cntN (wnB Q) (rN R) = 0) := by
      rw [show (0 : Int32) = nn 0 from rfl]; exact nn_inj _ _ (by have := cntN_le (wnB Q) (rN R); omega) (by omega)
    simp only [hz]
  | succ d ih =>
    intro k n hk hn
    obtain ⟨m, rfl⟩ : ∃ m, n = m + 1 := ⟨n - 1, by omega⟩
    have h0 : ¬ (nn (rN R) ≤ nn k) := nn_ge k _ (by omega) (by omega)
    unfold F_111_118
    rw [hQ, h1, if_neg h0, b_get _ _ (by omega)]
    simp (disch := omega) only [nn_mull, nn_mulr, nn_addl, nn_addr, nn_add, nn_mul, tn_nn, tn_l, inb_nn, inb_l, zCk_t, ite_self, zBd_s, zb_1]
    rw [← ih (k + 1) m (by omega) (by omega)]
    congr 1
    show _ = nn (cntN (wnB Q) k + (if wnB Q k = true then 1 else 0))
    unfold wnB
    cases bt (Q 13) k
    · rfl
    · rw [if_pos rfl, Bool.true_and]
      by_cases g : Q (22 + k) < 0
      · rw [if_neg (Int32.not_le.mpr g), decide_eq_true g]; rfl
      · rw [if_pos (Int32.not_lt.mp g), decide_eq_false g]; rfl
theorem MoA_wf {R : Nat → Int32} (hG : GD R) (p v : Int32) : MoA (m_111 p v) R (aWf R p v) := by
  have h6 := hG.1.2
  unfold aWf
  rcases pl_cases hG p with h | ⟨k, hk, rfl⟩
  · rw [if_pos h]
    refine ret_M' _ (okR_no (by simp)) fun im lm hR => ?_
    unfold m_111; rw [hR, (pl_no hG h).2, if_neg (by decide)]
  have hnp : ¬ (nn k < 0 ∨ R 1 ≤ nn k) := by
    rintro (h | h)
    · exact nn_neg k (by omega) h
    · rw [hG.1.1] at h; exact nn_ge k _ hk (by omega) h
  have htn : Int32.toNatClampNeg (nn k) = k := tn_nn k (by omega)
  have py := (pl_yes hG hk).2
  rw [if_neg hnp, htn]
  by_cases h1 : v < 0
  · rw [if_pos h1]
    refine ret_M' _ (okR_no (by simp)) fun im lm hR => ?_
    unfold m_111; rw [hR, py, if_pos rfl, if_pos h1, if_pos rfl]
  rw [if_neg h1]
  by_cases h2 : v ≤ 100000
  · have h2' : ¬ 100000 < v := Int32.not_lt.mpr h2
    rw [if_pos h2]
    by_cases h3 : R 0 = 4
    · rw [if_pos h3]
      have hs0 : (((R 13 >>> (nn k &&& 31)) &&& 1) = 0) = (bt (R 13) k = false) := by
        rw [b_get _ _ (by omega), zb_0]; apply propext; cases bt (R 13) k <;> simp
      by_cases h4 : wnB R k = true
      · have hb : bt (R 13) k = true := by unfold wnB at h4; simp only [Bool.and_eq_true] at h4; exact h4.1
        have hneg : R (22 + k) < 0 := by unfold wnB at h4; simp only [Bool.and_eq_true, decide_eq_true_eq] at h4; exact h4.2
        have e1 : ¬ (bt (R 13) k = false) := by rw [hb]; decide
        rw [if_pos h4]
        by_cases h5 : v ≤ R (16 + k)
        · rw [if_pos h5]
          obtain ⟨w, hw, rfl⟩ := wag_arg h1 h2
          intro im lm X hX hm hR
          have hgo : m_111 (nn k) (nn w) im lm = zBd (m_25 im lm) fun _ im1 lm1 => zCk (zeInb (22 + nn k) 360) (F_111_118 2000 0 0 (zeU2 im1 171 (Int32.toNatClampNeg (22 + nn k)) (nn w)) lm1) := by
            unfold m_111 J_111_87
            rw [hR, py, if_pos rfl, if_neg h1, if_neg h2', if_neg (by decide)]
            simp (disch := omega) only [nn_mull, nn_mulr, nn_addl, nn_addr, nn_add, nn_mul, tn_nn, tn_l, inb_nn, inb_l, zCk_t, ite_self, zBd_s, h3, if_true, hs0, e1, if_false, hneg, h5, Int32.le_refl, Bool.true_eq_false]
          rw [hgo]
          refine rec_M (A := (nn (cntN (wnB (wfI R k (nn w))) (rN R)), wfR R k (nn w), 0)) (M := fun im1 lm1 => zCk (zeInb (22 + nn k) 360) (F_111_118 2000 0 0 (zeU2 im1 171 (Int32.toNatClampNeg (22 + nn k)) (nn w)) lm1)) (GD_z hG) (okR_nn _ (by have := cntN_le (wnB (wfI R k (nn w))) (rN R); omega)) ?_ im lm X hX hm hR
          intro im lm X hm hR
          have hQ : zeU2 im 171 (22 + k) (nn w) 171 = wfI R k (nn w) := by rw [u2r, hR]; rfl
          have h111 := s111 hG lm (zeU2 im 171 (22 + k) (nn w)) hQ (by unfold wfI; rw [u1_n _ _ _ _ (by omega)]; exact hG.1.1) (by
            intro p hp
            unfold wfI
            by_cases g : p = k
            · subst g; rw [u1_s]; exact Or.inr ⟨w, hw, rfl⟩
            · rw [u1_n _ _ _ _ (by omega)]; exact hG.2.2.2.2.2.2.2.2.2.2.2.2.1 p hp) (rN R) 0 2000 (by omega) (by omega)
          refine ⟨zeU2 (zeU2 im 171 (22 + k) (nn w)) 171 0 (if cntN (wnB (wfI R k (nn w))) (rN R) = 0 then 5 else 4), ?_, ?_, ?_, ?_, ?_⟩
          · show zCk _ _ = _
            simp (disch := omega) only [nn_mull, nn_mulr, nn_addl, nn_addr, nn_add, nn_mul, tn_nn, tn_l, inb_nn, inb_l, zCk_t, ite_self, zBd_s]
            exact h111
          · exact MX_fm (FM_t (FM_171 _ _ _) (FM_171 _ _ _)) hm
          · rw [u2r, hQ]; rfl
          · rw [u2n _ _ _ _ _ (by decide), u2n _ _ _ _ _ (by decide)]; rfl
          · exact FM_fr (FM_t (FM_171 _ _ _) (FM_171 _ _ _))
        · rw [if_neg h5]
          refine ref_M' 5 (by decide) fun im lm hR => ?_
          unfold m_111 J_111_87
          rw [hR, py, if_pos rfl, if_neg h1, if_neg h2', if_neg (by decide)]
          simp (disch := omega) only [nn_mull, nn_mulr, nn_addl, nn_addr, nn_add, nn_mul, tn_nn, tn_l, inb_nn, inb_l, zCk_t, ite_self, zBd_s, h3, if_true, hs0, e1, if_false, hneg, h5, show ((5 : Int32) ≤ 0) = False from by decide]
          rfl
      · rw [if_neg h4]
        refine ref_M' 6 (by decide) fun im lm hR => ?_
        unfold m_111 J_111_87
        rw [hR, py, if_pos rfl, if_neg h1, if_neg h2', if_neg (by decide)]
        by_cases hb : bt (R 13) k = true
        · have e1 : ¬ (bt (R 13) k = false) := by rw [hb]; decide
          have hneg : ¬ R (22 + k) < 0 := fun h => h4 (by unfold wnB; rw [hb, decide_eq_true h]; rfl)
          simp (disch := omega) only [nn_mull, nn_mulr, nn_addl, nn_addr, nn_add, nn_mul, tn_nn, tn_l, inb_nn, inb_l, zCk_t, ite_self, zBd_s, h3, if_true, hs0, e1, if_false, hneg, show ((6 : Int32) ≤ 0) = False from by decide]
          rfl
        · have e1 : bt (R 13) k = false := by simpa using hb
          simp (disch := omega) only [nn_mull, nn_mulr, nn_addl, nn_addr, nn_add, nn_mul, tn_nn, tn_l, inb_nn, inb_l, zCk_t, ite_self, zBd_s, h3, if_true, hs0, e1, if_false, show ((6 : Int32) ≤ 0) = False from by decide]
          rfl
    · rw [if_neg h3]
      refine ref_M' 1 (by decide) fun im lm hR => ?_
      unfold m_111 J_111_87
      rw [hR, py, if_pos rfl, if_neg h1, if_neg h2', if_neg (by decide)]
      simp (disch := omega) only [nn_mull, nn_mulr, nn_addl, nn_addr, nn_add, nn_mul, tn_nn, tn_l, inb_nn, inb_l, zCk_t, ite_self, zBd_s, h3, if_false, show ((1 : Int32) ≤ 0) = False from by decide]
      rfl
  · rw [if_neg h2]
    refine ret_M' _ (okR_no (by simp)) fun im lm hR => ?_
    unfold m_111; rw [hR, py, if_pos rfl, if_neg h1, if_pos (Int32.not_le.mp h2), if_pos rfl]
