/-! SCRIPTS: runScript *-/
theorem flt_all {c : Nat → Nat} {L : Nat} : ∀ n k, L < n + ps c k → flt c L n (ps c k) = none → ∀ j, k ≤ j → ps c j < L → mvB c L (ps c j) = none := by
  intro n
  induction n with
  | zero => intro k h1 _ j h2 h3; have := ps_lt (c := c) h2; omega
  | succ n ih =>
    intro k h1 h2 j h3 h4
    have hle := ps_lt (c := c) h3
    have hfl : flt c L (n + 1) (ps c k) = if L ≤ ps c k then none else match mvB c L (ps c k) with | some f => some f | none => flt c L n (ps c k + mvL (c (ps c k))) := rfl
    rw [hfl, if_neg (by omega)] at h2
    cases hB : mvB c L (ps c k) with
    | some f => rw [hB] at h2; cases h2
    | none =>
      rw [hB] at h2
      by_cases g : j = k
      · subst g; exact hB
      · obtain ⟨q1, q2, q3⟩ := mvB_none (by omega) hB
        exact ih (k + 1) (by show L < n + (ps c k + mvL (c (ps c k))); omega) h2 j (by omega) h4
theorem fltT_no {c : Nat → Nat} {L : Nat} (hL : L ≤ 70) (h : fltT c L = -1) : 0 < L ∧ flt c L (L + 1) 0 = none := by
  unfold fltT at h
  by_cases g : L = 0
  · rw [if_pos g] at h; exact absurd h (by decide)
  · rw [if_neg g] at h
    refine ⟨by omega, ?_⟩
    cases hq : flt c L (L + 1) 0 with
    | none => rfl
    | some f =>
      rw [hq] at h
      have hfb : f ≤ L := flt_le c L _ _ _ (Nat.zero_le _) hq
      have h3 : nn f < 0 := by rw [show nn f = -1 from h]; decide
      exact absurd h3 (nn_neg f (by omega))
theorem MvW_fr {im im' : zI} {c : Nat → Nat} {M : Nat} (h : FM im im') (hW : MvW im c M) : MvW im' c M := by
  obtain ⟨h1, h2⟩ := hW
  refine ⟨by rw [h 170 18 (by omega) (by decide) (by omega) (by decide)]; exact h1, fun k hk => ?_⟩
  rw [h 185 _ (by omega) (by decide) (by omega) (by decide), h 185 _ (by omega) (by decide) (by omega) (by decide), h 185 _ (by omega) (by decide) (by omega) (by decide)]
  exact h2 k hk
theorem s141 {R : Nat → Int32} (hG : GD R) {im : zI} (lm : zJ) (hR : im 171 = R) {c : Nat → Nat} {M k : Nat} (hW : MvW im c M) (hk : k < M) (hM : M ≤ 70) (hc : c (ps c k) < 65536) : m_141 (nn (3 * k)) im lm = zBd (cX c (ps c k) im lm) fun v im1 lm1 => some (v, im1, lm1) := by
  obtain ⟨w1, w2, w3⟩ := hW.2 k hk
  have e1 : (nn (c (ps c k)) = 112) = (c (ps c k) = 112) := nnl _ 112 hc (by decide)
  have e2 : (nn (c (ps c k)) = 98) = (c (ps c k) = 98) := nnl _ 98 hc (by decide)
  have e3 : (nn (c (ps c k)) = 119) = (c (ps c k) = 119) := nnl _ 119 hc (by decide)
  have e4 : (nn (c (ps c k)) = 110) = (c (ps c k) = 110) := nnl _ 110 hc (by decide)
  unfold m_141 cX
  rw [nn_s1, show nn (3 * k) + 2 = nn (3 * k + 2) from nn_addr (3 * k) 2]
  simp (disch := omega) only [nn_mull, nn_mulr, nn_addl, nn_addr, nn_add, nn_mul, tn_nn, tn_l, inb_nn, inb_l, zCk_t, ite_self, zBd_s, zCk_t, w1, w2, w3, e1, e2, e3, e4]
  by_cases g1 : c (ps c k) = 112
  · rw [if_pos g1, if_pos g1]
    obtain ⟨im2, a1, a2, a3, a4⟩ := s47g hG im lm hR
    have w2' : im2 185 (3 * k + 1) = nn (mvA c (ps c k)) := by rw [a2 185 _ (by omega) (by decide) (by omega) (by decide)]; exact w2
    rw [a1, zBd_s, zBd_s, w2']
  rw [if_neg g1, if_neg g1]
  by_cases g2 : c (ps c k) = 98
  · rw [if_pos g2, if_pos g2]
  rw [if_neg g2, if_neg g2]
  by_cases g3 : c (ps c k) = 119
  · rw [if_pos g3, if_pos g3]
  rw [if_neg g3, if_neg g3]
  by_cases g4 : c (ps c k) = 110
  · rw [if_pos g4, if_pos g4]
  rw [if_neg g4, if_neg g4]
theorem s142 {im : zI} (lm : zJ) {c : Nat → Nat} {M k : Nat} (hW : MvW im c M) (hk : k < M) (hM : M ≤ 70) (hc : c (ps c k) < 65536) : m_142 (nn (3 * k)) im lm = zBd (dX c (ps c k) im lm) fun _ im1 lm1 => some (0, im1, lm1) := by
  obtain ⟨w1, w2, w3⟩ := hW.2 k hk
  have e1 : (nn (c (ps c k)) = 112) = (c (ps c k) = 112) := nnl _ 112 hc (by decide)
  have e2 : (nn (c (ps c k)) = 98) = (c (ps c k) = 98) := nnl _ 98 hc (by decide)
  have e3 : (nn (c (ps c k)) = 119) = (c (ps c k) = 119) := nnl _ 119 hc (by decide)
  have e4 : (nn (c (ps c k)) = 110) = (c (ps c k) = 110) := nnl _ 110 hc (by decide)
  have e5 : (nn (c (ps c k)) = 43) = (c (ps c k) = 43) := nnl _ 43 hc (by decide)
  unfold m_142 dX J_142_108
  rw [nn_s1, show nn (3 * k) + 2 = nn (3 * k + 2) from nn_addr (3 * k) 2]
  simp (disch := omega) only [nn_mull, nn_mulr, nn_addl, nn_addr, nn_add, nn_mul, tn_nn, tn_l, inb_nn, inb_l, zCk_t, ite_self, zBd_s, zCk_t, w1, w2, w3, e1, e2, e3, e4, e5]
  by_cases g1 : c (ps c k) = 112
  · rw [if_pos g1, if_pos g1]
  rw [if_neg g1, if_neg g1]
  by_cases g2 : c (ps c k) = 98
  · rw [if_pos g2, if_pos g2]
  rw [if_neg g2, if_neg g2]
  by_cases g3 : c (ps c k) = 119
  · rw [if_pos g3, if_pos g3]
  rw [if_neg g3, if_neg g3]
  by_cases g4 : c (ps c k) = 110
  · rw [if_pos g4, if_pos g4]
  rw [if_neg g4, if_neg g4]
theorem TxC_fn {im im' : zI} {lm lm' : zJ} {c : Nat → Nat} {L : Nat} (h : FN im lm im' lm') (hT : TxC im c L) : TxC im' c L := by
  unfold TxC
  rw [(FN_c h 166 (by decide)).1, (FN_c h 167 (by decide)).1]; exact hT
theorem h5_of {im : zI} {lm : zJ} {R : Nat → Int32} {q : Int32} (hn : NW im lm R q) : ∃ a, R 0 = 5 → F5 R a := by
  by_cases g : R 0 = 5
  · obtain ⟨a, _, ha⟩ := hn.1.2.2.2.2.2.2.2.1 g
    exact ⟨a, fun _ => ha⟩
  · exact ⟨0, fun h => absurd h g⟩
/-- both runs of the moves -/
theorem run_l {c : Nat → Nat} {L M : Nat} (hM : M ≤ 70) (hps : ps c M = L) (hlt : ∀ k, k < M → ps c k < L) (hB : ∀ k, k < M → mvB c L (ps c k) = none) (hcc : ∀ i, i < L → c i < 65536) : ∀ d k n R q im lm, k + d = M → d < n → GD R → NW im lm R q → TxC im c L → ∃ r R' q' im' lm', F_138_33 n (nn k) (nn (ps c k)) im lm = J_138_78 (nn r) im' lm' ∧ GD R' ∧ NW im' lm' R' q' ∧ FN im lm im' lm' ∧ ∀ n2 im2 lm2, d < n2 → im2 171 = R → im2 170 5 = q → MvW im2 c M → ∃ im3, F_143_22 n2 (nn k) 0 im2 lm2 = some (nn r, im3, lm2) ∧ FM im2 im3 ∧ im3 171 = R' ∧ im3 170 5 = q' := by
  intro d
  induction d with
  | zero =>
    intro k n R q im lm hk hn hG hN hT
    obtain ⟨n, rfl⟩ : ∃ m, n = m + 1 := ⟨n - 1, by omega⟩
    have hkM : k = M := by omega
    subst hkM
    refine ⟨k, R, q, im, lm, ?_, hG, hN, FN_r im lm, ?_⟩
    · rw [F_138_33.eq_2, hps, hT.1]
      by_cases g : k = 70
      · subst g; rw [if_pos (show (70 : Int32) ≤ nn 70 from Int32.le_refl _)]
      · rw [if_neg (show ¬ (70 : Int32) ≤ nn k from nn_ge k 70 (by omega) (by omega)), if_pos (Int32.le_refl _)]
    · intro n2 im2 lm2 hn2 hR hq hW
      obtain ⟨n2, rfl⟩ : ∃ m, n2 = m + 1 := ⟨n2 - 1, by omega⟩
      refine ⟨im2, ?_, FM_r im2, hR, hq⟩
      rw [F_143_22.eq_2, if_neg (show ¬ (0 : Int32) < 0 by decide), hW.1, if_pos (Int32.le_refl _)]
  | succ d ih =>
    intro k n R q im lm hk hn hG hN hT
    obtain ⟨n, rfl⟩ : ∃ m, n = m + 1 := ⟨n - 1, by omega⟩
    have hL := hT.2.1
    have hkM : k < M := by omega
    have hs := hlt k hkM
    have hb := hB k hkM
    have hcs := hcc _ hs
    obtain ⟨q1, q2, q3⟩ := mvB_none hs hb
    have hml := mvL_v (c (ps c k))
    obtain ⟨a, hF⟩ := h5_of hN
    have hmv := mv_X hG c (ps c k) hF
    obtain ⟨hdo, hGA⟩ := do_X hG c (ps c k) hF
    obtain ⟨im1, lm1, a1, a2, a3⟩ := hdo q im lm hN
    have hcl : F_138_33 (n + 1) (nn k) (nn (ps c k)) im lm = if (if (aX c (ps c k) R a).1 = -10000001 then 1 else if (aX c (ps c k) R a).1 = -10000002 then 1 else if (aX c (ps c k) R a).1 = -10000003 then 1 else if (aX c (ps c k) R a).1 = -10000004 then 1 else 0 : Int32) = 0 then F_138_33 n (nn (k + 1)) (nn (ps c (k + 1))) im1 lm1 else J_138_78 (nn k) im1 lm1 := by
      rw [F_138_33.eq_2, if_neg (show ¬ (70 : Int32) ≤ nn k from nn_ge k 70 (by omega) (by omega)), hT.1, if_neg (nn_ge (ps c k) L hs (by omega)), s136 hG hN hT hs hb, a1, zBd_s, zBd_s, s131 (TxC_fn a3 hT) lm1 _ (by omega), zBd_s, show sgn c L (ps c k) = c (ps c k) from if_pos hs, nn_add, nn_s1]
      rfl
    have hmo : ∀ n2 im2 lm2, im2 171 = R → MvW im2 c M → F_143_22 (n2 + 1) (nn k) 0 im2 lm2 = zBd (cX c (ps c k) im2 lm2) fun v1 im1 lm1 => if v1 < 0 then J_143_53 (F_143_22 n2) (nn k) v1 im1 lm1 else zBd (m_142 (nn (3 * k)) im1 lm1) fun _ im2 lm2 => J_143_53 (F_143_22 n2) (nn k) v1 im2 lm2 := by
      intro n2 im2 lm2 hR hW
      rw [F_143_22.eq_2, if_neg (show ¬ (0 : Int32) < 0 by decide), hW.1, if_neg (nn_ge k M hkM (by omega)), show (3 : Int32) * nn k = nn (3 * k) from nn_mull 3 k, s141 hG lm2 hR hW hkM hM hcs]
      cases cX c (ps c k) im2 lm2 with
      | none => rfl
      | some v => rfl
    rcases hmv with ⟨code, w, hcode, hA, hC⟩ | ⟨x, R', hA, hok, hC, hD⟩
    · rw [hA] at a1 a2 hcl
      have hneg : code < 0 := by rcases hcode with h | h | h | h <;> rw [h] <;> decide
      by_cases gN : code = -10000005
      · obtain ⟨r, R2, q2, im3, lm3, b1, b2, b3, b4, b5⟩ := ih (k + 1) n R (rsn q w) im1 lm1 (by omega) (by omega) hG a2 (TxC_fn a3 hT)
        refine ⟨r, R2, q2, im3, lm3, ?_, b2, b3, FN_t a3 b4, ?_⟩
        · rw [hcl, gN]; exact b1
        · intro n2 im2 lm2 hn2 hR hq hW
          obtain ⟨n2, rfl⟩ : ∃ m, n2 = m + 1 := ⟨n2 - 1, by omega⟩
          obtain ⟨im4, c1, c2, c3, c4⟩ := hC im2 lm2 hR
          obtain ⟨im5, d1, d2, d3, d4⟩ := b5 n2 im4 lm2 (by omega) c3 (by rw [c4, hq]) (MvW_fr c2 hW)
          refine ⟨im5, ?_, FM_t c2 d2, d3, d4⟩
          rw [hmo n2 im2 lm2 hR hW, c1, zBd_s, if_pos hneg]
          unfold J_143_53 J_143_64
          rw [if_pos gN, if_neg (show ¬ (0 : Int32) < 0 by decide), nn_s1]
          exact d1
      · refine ⟨k, R, rsn q w, im1, lm1, ?_, hG, a2, a3, ?_⟩
        · rw [hcl]
          rcases hcode with h | h | h | h
          · rw [h]; rfl
          · rw [h]; rfl
          · rw [h]; rfl
          · exact absurd h gN
        · intro n2 im2 lm2 hn2 hR hq hW
          obtain ⟨n2, rfl⟩ : ∃ m, n2 = m + 2 := ⟨n2 - 2, by omega⟩
          obtain ⟨im4, c1, c2, c3, c4⟩ := hC im2 lm2 hR
          refine ⟨im4, ?_, c2, c3, by rw [c4, hq]⟩
          rw [hmo (n2 + 1) im2 lm2 hR hW, c1, zBd_s, if_pos hneg]
          unfold J_143_53 J_143_64
          rw [if_neg gN, if_pos hneg, F_143_22.eq_2, if_pos hneg, show nn k + 0 = nn k from nn_addr k 0]
    · rw [hA] at a1 a2 hcl hGA
      obtain ⟨r, R2, q2, im3, lm3, b1, b2, b3, b4, b5⟩ := ih (k + 1) n R' (rsn q 0) im1 lm1 (by omega) (by omega) hGA a2 (TxC_fn a3 hT)
      refine ⟨r, R2, q2, im3, lm3, ?_, b2, b3, FN_t a3 b4, ?_⟩
      · obtain ⟨o1, o2, o3, o4, o5⟩ := hok
        rw [hcl]
        simp only [o1, o2, o3, o4, if_false, if_true]
        exact b1
      · intro n2 im2 lm2 hn2 hR hq hW
        obtain ⟨n2, rfl⟩ : ∃ m, n2 = m + 1 := ⟨n2 - 1, by omega⟩
        obtain ⟨im4, c1, c2, c3, c4⟩ := hC im2 lm2 hR
        obtain ⟨im6, e1, e2, e3, e4⟩ := hD im4 lm2 c3
        obtain ⟨im5, d1, d2, d3, d4⟩ := b5 n2 im6 lm2 (by omega) e3 (by rw [e4, c4, hq]) (MvW_fr e2 (MvW_fr c2 hW))
        refine ⟨im5, ?_, FM_t c2 (FM_t e2 d2), d3, d4⟩
        rw [hmo n2 im2 lm2 hR hW, c1, zBd_s, if_neg (show ¬ (0 : Int32) < 0 by decide), s142 lm2 (MvW_fr c2 hW) hkM hM hcs, e1, zBd_s, zBd_s]
        unfold J_143_53 J_143_64
        rw [if_neg (show ¬ (0 : Int32) = -10000005 by decide), if_neg (show ¬ (0 : Int32) < 0 by decide), nn_s1]
        exact d1
theorem st_138 : StE m_138 m_143 := by
  rintro im lm ⟨R, q, X, hG, hX, hn, hc, hR, hq, hm⟩
  obtain ⟨c, hcE⟩ : ∃ c : Nat → Nat, ∀ i, i < xL X → c i < 65536 ∧ xC X i = nn (c i) := by
    refine ⟨fun i => (xC X i).toNatClampNeg, fun i hi => ?_⟩
    obtain ⟨x, h1, h2⟩ := hX.2.2.2.2 i hi
    show (xC X i).toNatClampNeg < 65536 ∧ xC X i = nn (xC X i).toNatClampNeg
    rw [h2, tn_nn _ (by omega)]
    exact ⟨h1, rfl⟩
  have hL := hX.2.2.2.1
  have hT : TxC im c (xL X) := ⟨hc.2.2.1, hL, fun i hi => ⟨(hc.2.2.2 i hi).trans (hcE i hi).2, (hcE i hi).1⟩⟩
  by_cases gf : fltT c (xL X) = -1
  · obtain ⟨hL0, hfl⟩ := fltT_no hL gf
    obtain ⟨im1, lm1, a1, a2, a3, a4⟩ := s15_tr hG hX hc hn
    have hT1 : TxC im1 c (xL X) := by unfold TxC; rw [(a4 166 (by omega)).1, (a4 167 (by omega)).1]; exact hT
    have hMM0 : TxM im c (xL X) := ⟨hm.2.2.2.1, hL, fun i hi => ⟨(hm.2.2.2.2 i hi).trans (hcE i hi).2, (hcE i hi).1⟩⟩
    obtain ⟨_, _, _, _, z4'⟩ := s140 hMM0 lm
    obtain ⟨M, m1, m2, m3, _⟩ := z4' gf
    have hallB := flt_all (c := c) (L := xL X) (xL X + 1) 0 (by show xL X < xL X + 1 + 0; omega) hfl
    obtain ⟨r, R', q', im2, lm2, b1, b2, b3, b4, b5⟩ := run_l (c := c) (L := xL X) (M := M) (by omega) m1 m3 (fun k hk => hallB k (Nat.zero_le _) (m3 k hk)) (fun i hi => (hcE i hi).1) M 0 2000 R q im1 lm1 (by omega) (by omega) hG a3 hT1
    obtain ⟨im3, c1, c2, c3⟩ := s20 hG hX (TR_of hG hX (fun a ha _ => FN_c b4 a ha) a2)
    have hC : m_138 im lm = some (nn r, im3, lm2) := by
      unfold m_138
      rw [s134 hT lm, zBd_s, gf, if_pos rfl, a1, zBd_s, show F_138_33 2000 0 0 im1 lm1 = J_138_78 (nn r) im2 lm2 from b1]
      unfold J_138_78
      rw [c1, zBd_s]
    have f3 : ∀ a, 168 ≤ a → im3 a = im a := fun a ha => by
      rw [c3 a (by omega), (FN_c b4 a (by omega)).1, (a4 a (by omega)).1]
    have hMM : TxM im3 c (xL X) := TxM_fr hMM0 (by rw [f3 170 (by decide)]) (f3 184 (by decide))
    obtain ⟨imz, z1, z2, z3, z4⟩ := s140 hMM lm2
    obtain ⟨M2, k1, k2, k3, hW⟩ := z4 gf
    have hM2 : M2 = M := by
      rcases Nat.lt_trichotomy M2 M with g | g | g
      · have := m3 M2 g; omega
      · exact g
      · have := k3 M g; omega
    subst hM2
    have hmz : MX imz X := by
      have hm3 : MX im3 X := MX_fr (fun a ha => f3 a (by omega)) hm
      obtain ⟨e1, e2, e3, e4, e5⟩ := hm3
      refine ⟨by rw [z3 2 (by decide)]; exact e1, fun i hi => ?_, fun s hs => ?_, by rw [z3 16 (by decide)]; exact e4, by rw [z2 184 (by decide) (by decide)]; exact e5⟩
      · rw [← e2 i hi]; unfold hr; rw [z2 172 (by decide) (by decide)]
      · rw [z2 174 (by decide) (by decide)]; refine ⟨(e3 s hs).1, fun g => ?_⟩; rw [← (e3 s hs).2 g]; unfold hr; rw [z2 173 (by decide) (by decide)]
    have hzR : imz 171 = R := by rw [z2 171 (by decide) (by decide), f3 171 (by decide), hR]
    have hzq : imz 170 5 = q := by rw [z3 5 (by decide), f3 170 (by decide), hq]
    obtain ⟨imy, y1, y2, y3, y4⟩ := s25 (lm := lm2) hX hmz (by rw [hzR]; exact GD_z hG)
    have hyW : MvW imy c M2 := by
      obtain ⟨w1, w2⟩ := hW
      refine ⟨by rw [y4 170 18 (by decide) (by decide)]; exact w1, fun k hk => ?_⟩
      rw [y4 185 _ (by decide) (by omega), y4 185 _ (by decide) (by omega), y4 185 _ (by decide) (by omega)]
      exact w2 k hk
    obtain ⟨im4, d1, d2, d3, d4⟩ := b5 2000 imy lm2 (by omega) (y3.trans hzR) (by rw [y4 170 5 (by decide) (by omega)]; exact hzq) hyW
    have g4 : ∀ a, (a < 170 ∨ 186 < a) → im4 a = im3 a := fun a ha => by
      rw [FM_fr d2 a ha, ← z2 a (by omega) (by omega)]
      funext j
      exact y4 a j (by omega) (by omega)
    refine ⟨nn r, im3, lm2, im4, hC, ?_, ?_, ?_, by rw [c3 0 (by decide), show im2 0 = im1 0 from by funext j; exact b4.1 0 j (by omega) (by omega), (a4 0 (by omega)).1]⟩
    · unfold m_143
      rw [z1, zBd_s, gf, if_pos (show (-1 : Int32) < 0 by decide), y1, zBd_s]
      exact d1
    · rw [hzR] at y2
      exact iv_mk b2 (XG_push hG hX) (NW_of b2 (fun a ha => ⟨c3 a (by omega), rfl⟩) b3) c2 g4 d3 d4 (MX_fm d2 y2)
    · intro a ha
      rw [g4 a (by omega), c3 a (by omega)]
      have e1 : im2 a = im1 a := by
        funext j
        exact b4.1 a j (by omega) (by omega)
      rw [e1, (a4 a (by omega)).1]
  · have hf0 : ¬ fltT c (xL X) < 0 := by
      have : ∃ f, f ≤ 70 ∧ fltT c (xL X) = nn f := by
        revert gf
        unfold fltT
        by_cases g : xL X = 0
        · rw [if_pos g]; exact fun _ => ⟨0, by omega, rfl⟩
        · rw [if_neg g]
          cases hq : flt c (xL X) (xL X + 1) 0 with
          | none => exact fun h => absurd rfl h
          | some f => exact fun _ => ⟨f, by have := flt_le c (xL X) _ _ _ (Nat.zero_le _) hq; omega, rfl⟩
      obtain ⟨f, h1, h2⟩ := this
      rw [h2]; exact nn_neg f (by omega)
    have hC : m_138 im lm = some (-100 - fltT c (xL X), im, lm) := by
      unfold m_138
      rw [s134 hT lm, zBd_s, if_neg gf]
    have hMM : TxM im c (xL X) := ⟨hm.2.2.2.1, hL, fun i hi => ⟨(hm.2.2.2.2 i hi).trans (hcE i hi).2, (hcE i hi).1⟩⟩
    obtain ⟨imz, z1, z2, z3, z4⟩ := s140 hMM lm
    have hmz : MX imz X := by
      obtain ⟨e1, e2, e3, e4, e5⟩ := hm
      refine ⟨by rw [z3 2 (by decide)]; exact e1, fun i hi => ?_, fun s hs => ?_, by rw [z3 16 (by decide)]; exact e4, by rw [z2 184 (by decide) (by decide)]; exact e5⟩
      · rw [← e2 i hi]; unfold hr; rw [z2 172 (by decide) (by decide)]
      · rw [z2 174 (by decide) (by decide)]; refine ⟨(e3 s hs).1, fun g => ?_⟩; rw [← (e3 s hs).2 g]; unfold hr; rw [z2 173 (by decide) (by decide)]
    refine ⟨_, im, lm, imz, hC, ?_, ?_, fun a ha => z2 a (by omega) (by omega), rfl⟩
    · unfold m_143
      rw [z1, zBd_s, if_neg hf0]
    · exact iv_mk hG hX hn hc (fun a ha => z2 a (by omega) (by omega)) (by rw [z2 171 (by decide) (by decide), hR]) (by rw [z3 5 (by decide), hq]) hmz
