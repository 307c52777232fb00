/-! THE INVARIANT of the two objects; a step *-/
def IV (im : zI) (lm : zJ) (R : Nat → Int32) (q : Int32) (X : zX) : Prop := GD R ∧ XG X ∧ NW im lm R q ∧ CX im lm X ∧ im 171 = R ∧ im 170 5 = q ∧ MX im X
def ivE (im : zI) (lm : zJ) : Prop := ∃ R q X, IV im lm R q X
/-- what the calls leave alone -/
def FS (im im' : zI) : Prop := ∀ a, (a < 16 ∨ a = 168 ∨ 187 ≤ a) → im' a = im a
/-- class and model answer alike, and the invariant holds again -/
def StE (C M : zI → zJ → zR) : Prop := ∀ im lm, ivE im lm → ∃ r im1 lm1 im2, C im lm = some (r, im1, lm1) ∧ M im1 lm1 = some (r, im2, lm1) ∧ ivE im2 lm1 ∧ FS im im2 ∧ im1 0 = im 0
theorem MX_fr {im im' : zI} {X : zX} (h : ∀ a, (170 ≤ a ∧ a ≤ 186) → im' a = im a) (hm : MX im X) : MX im' X := by
  obtain ⟨h1, h2, h3, h4, h5⟩ := hm
  refine ⟨?_, ?_, ?_, ?_, ?_⟩
  · rw [h 170 (by omega)]; exact h1
  · intro i hi; rw [← h2 i hi]; unfold hr; rw [h 172 (by omega)]
  · intro s hs; rw [h 174 (by omega)]; refine ⟨(h3 s hs).1, fun g => ?_⟩; rw [← (h3 s hs).2 g]; unfold hr; rw [h 173 (by omega)]
  · rw [h 170 (by omega)]; exact h4
  · rw [h 184 (by omega)]; exact h5
/-- the class's half, then the model's -/
theorem iv_mk {im1 im2 : zI} {lm1 : zJ} {R' : Nat → Int32} {q' : Int32} {X' : zX} (hG : GD R') (hX : XG X') (hn : NW im1 lm1 R' q') (hc : CX im1 lm1 X') (hf : ∀ a, (a < 170 ∨ 186 < a) → im2 a = im1 a) (hR : im2 171 = R') (hq : im2 170 5 = q') (hm : MX im2 X') : ivE im2 lm1 :=
  ⟨R', q', X', hG, hX, NW_of hG (fun a ha => ⟨hf a (by omega), rfl⟩) hn, CX_of hX (fun a h1 h2 => ⟨hf a (by omega), rfl⟩) hc, hR, hq, hm⟩
theorem st_act {D M : zI → zJ → zR} (h : ∀ R, GD R → (∃ a, R 0 = 5 → F5 R a) → ∃ A : zA, DoA D R A ∧ MoA M R A ∧ GD A.2.1) : StE (actW D) M := by
  rintro im lm ⟨R, q, X, hG, hX, hn, hc, hR, hq, hm⟩
  have h5 : ∃ a, R 0 = 5 → F5 R a := by
    by_cases g : R 0 = 5
    · obtain ⟨a, _, ha⟩ := hn.1.2.2.2.2.2.2.2.1 g
      exact ⟨a, fun _ => ha⟩
    · exact ⟨0, fun h => absurd h g⟩
  obtain ⟨A, h1, h2, h3⟩ := h R hG h5
  obtain ⟨im1, lm1, a1, a2, a3, a4⟩ := sW hG h3 hX hc hn (h1 q)
  have hR1 : im1 171 = R := (a4 171 (Or.inr (by decide))).trans hR
  have hm1 : MX im1 X := MX_fr (fun a ha => a4 a (Or.inr (by omega))) hm
  obtain ⟨im2, b1, b2, b3, b4, b5⟩ := h2 im1 lm1 X hX hm1 hR1
  refine ⟨A.1, im1, lm1, im2, a1, b1, iv_mk h3 (XG_rec hG hX) a2 a3 b5 b3 ?_ b2, ?_, a4 0 (Or.inl (by decide))⟩
  · rw [b4, a4 170 (Or.inr (by decide)), hq]
  · intro a ha
    rw [b5 a (by omega), a4 a (by omega)]
theorem st_q {C M : zI → zJ → zR} (h : ∀ R, GD R → ∃ r, QC C R r ∧ DxM M R r R) : StE C M := by
  rintro im lm ⟨R, q, X, hG, hX, hn, hc, hR, hq, hm⟩
  obtain ⟨r, h1, h2⟩ := h R hG
  obtain ⟨im2, b1, b2, b3, b4⟩ := h2 im lm hR
  exact ⟨r, im, lm, im2, h1 im lm q hn, b1, iv_mk hG hX hn hc (FM_fr b2) b3 (b4.trans hq) (MX_fm b2 hm), fun a ha => FM_fr b2 a (by omega), rfl⟩
theorem st_cls {C C' M : zI → zJ → zR} (h : ∀ im lm, C im lm = C' im lm) (h2 : StE C' M) : StE C M := by
  intro im lm hi
  obtain ⟨r, im1, lm1, im2, a1, a2⟩ := h2 im lm hi
  exact ⟨r, im1, lm1, im2, (h im lm).trans a1, a2⟩
/-! the acts -/
theorem st_22 : StE m_22 m_26 := st_act fun R hG _ => ⟨_, DoA_add hG, MoA_add hG, GD_aAdd hG⟩
theorem st_31 (a b : Int32) : StE (m_31 a b) (m_34 a b) := st_act (D := m_30 a b) fun R hG _ => ⟨_, DoA_swc hG a b, MoA_swc hG a b, GD_aSwc hG a b⟩
theorem st_36 (a b : Int32) : StE (m_36 a b) (m_37 a b) := st_act (D := m_35 a b) fun R hG _ => ⟨_, DoA_set hG a b, MoA_set hG a b, GD_aSet hG a b⟩
theorem st_43 (a b : Int32) : StE (m_43 a b) (m_51 a b) := st_act (D := m_42 a b) fun R hG _ => ⟨_, DoA_pck hG a b, MoA_pck hG a b, GD_aPck hG a b⟩
theorem st_59 (a b : Int32) : StE (m_59 a b) (m_66 a b) := st_act (D := m_58 a b) fun R hG _ => ⟨_, DoA_buz hG a b, MoA_buz hG a b, GD_aBuz hG a b⟩
theorem st_86 (l : Int32) : StE (m_86 l) (m_91 l) := st_act (D := m_85 l) fun R hG ⟨_, hF⟩ => ⟨_, DoA_ans hG l hF, MoA_ans hG l hF, GD_aAns hG (r01_v l).1 hF⟩
theorem st_93 : StE m_93 m_96 := st_act (D := m_92) fun R hG _ => ⟨_, DoA_clo hG, MoA_clo hG, GD_aClo hG⟩
theorem st_98 (a : Int32) : StE (m_98 a) (m_102 a) := st_act (D := m_97 a) fun R hG _ => ⟨_, DoA_wag hG a, MoA_wag hG a, GD_aWag hG a⟩
theorem st_105 : StE m_105 m_106 := st_act (D := m_104) fun R hG _ => ⟨_, DoA_beg hG, MoA_beg hG, GD_aBeg hG⟩
theorem st_110 (a b : Int32) : StE (m_110 a b) (m_111 a b) := st_act (D := m_109 a b) fun R hG _ => ⟨_, DoA_wf hG a b, MoA_wf hG a b, GD_aWf hG a b⟩
theorem st_116 (a b : Int32) : StE (m_116 a b) (m_117 a b) := st_act (D := m_115 a b) fun R hG _ => ⟨_, DoA_cor hG a b, MoA_cor hG a b, GD_aCor hG a b⟩
theorem st_122 (a : Int32) : StE (m_122 a) (m_124 a) := st_act (D := m_121 a) fun R hG _ => ⟨_, DoA_rej hG a, MoA_rej hG a, GD_aRej hG a⟩
/-! the queries -/
theorem st_113 (a : Int32) : StE (m_113 a) (m_114 a) := st_q fun R hG => ⟨_, Q_sf hG a, M_sf hG a⟩
theorem st_156 (a b : Int32) : StE (m_156 a b) (m_161 a b) := st_q fun R hG => ⟨_, Q_pl hG a b, M_pl hG a b⟩
theorem st_163 (a : Int32) : StE (m_163 a) (m_165 a) := st_q fun R hG => ⟨_, Q_or hG a, M_or hG a⟩
theorem st_166 (a : Int32) : StE (m_166 a) (m_167 a) := st_q fun R hG => ⟨_, Q_qu hG a, M_qu hG a⟩
theorem st_169 (a b : Int32) : StE (m_169 a b) (m_171 a b) := st_q fun R hG => ⟨_, Q_cl hG a b, M_cl hG a b⟩
theorem st_172 (a b : Int32) : StE (m_172 a b) (m_173 a b) := st_q fun R hG => ⟨_, Q_en hG a b, M_en hG a b⟩
theorem st_177 (w : Int32) : StE (m_177 w) (m_179 w) := by
  rintro im lm ⟨R, q, X, hG, hX, hn, hc, hR, hq, hm⟩
  have h5 : ∃ a, R 0 = 5 → F5 R a := by
    by_cases g : R 0 = 5
    · obtain ⟨a, _, ha⟩ := hn.1.2.2.2.2.2.2.2.1 g
      exact ⟨a, fun _ => ha⟩
    · exact ⟨0, fun h => absurd h g⟩
  obtain ⟨a, hF⟩ := h5
  obtain ⟨im2, b1, b2, b3, b4⟩ := M_co (lm := lm) hG hF w hR hm.1 hm.2.2.2.1
  obtain ⟨t, ht, hK, _⟩ := hc.1
  have h1 := Q_co hG hF w hn hK hc.2.2.1
  rw [hq] at b1
  exact ⟨_, im, lm, im2, h1, b1, iv_mk hG hX hn hc (FM_fr b2) b3 (b4.trans hq) (MX_fm b2 hm), fun a ha => FM_fr b2 a (by omega), rfl⟩
/-! type, clearText -/
def xtxt (X : zX) (L : Nat) (C : Nat → Int32) : zX := (xK X, xH X, xT X, xS X, L, C)
theorem chr_v (x : Int32) : ∃ c, c < 65536 ∧ vp_nar FieldType.char x = nn c := by
  show ∃ c, c < 65536 ∧ (x.toUInt32 % 65536).toInt32 = nn c
  refine ⟨x.toUInt32.toNat % 65536, Nat.mod_lt _ (by decide), ?_⟩
  apply Int32.toBitVec_inj.1
  show (x.toUInt32 % 65536).toBitVec = BitVec.ofNat 32 _
  apply BitVec.eq_of_toNat_eq
  rw [BitVec.toNat_ofNat]
  show (x.toUInt32 % 65536).toNat = _
  rw [UInt32.toNat_mod]
  show x.toUInt32.toNat % 65536 = _
  omega
theorem st_126 (x : Int32) : StE (m_126 x) (m_127 x) := by
  rintro im lm ⟨R, q, X, hG, hX, hn, hc, hR, hq, hm⟩
  have hL70 := hX.2.2.2.1
  have h166 := hc.2.2.1
  have h16 := hm.2.2.2.1
  have hl : (nn (xL X) < 70) = (xL X < 70) := by rw [show (70 : Int32) = nn 70 from rfl]; exact nn_lt _ _ (by omega) (by omega)
  have he : (nn (xL X) = 70) = (xL X = 70) := by rw [show (70 : Int32) = nn 70 from rfl]; exact nn_inj _ _ (by omega) (by omega)
  by_cases g : xL X = 70
  · refine ⟨-10000004, im, lm, im, ?_, ?_, ⟨R, q, X, hG, hX, hn, hc, hR, hq, hm⟩, fun _ _ => rfl, rfl⟩
    · unfold m_126 m_125
      have : ¬ xL X < 70 := by omega
      rw [h166]
      simp only [hl, this, if_false, zCk_t, zBd_s, if_true]
    · have e70 : nn (xL X) = 70 := by rw [g]; rfl
      unfold m_127
      rw [h16, e70]; rfl
  · have g2 : xL X < 70 := by omega
    obtain ⟨c, hc1, hc2⟩ := chr_v x
    refine ⟨nn (xL X + 1), zeU2 (zeU2 im 167 (xL X) (nn c)) 166 0 (nn (xL X + 1)), lm, zeU2 (zeU2 (zeU2 (zeU2 im 167 (xL X) (nn c)) 166 0 (nn (xL X + 1))) 184 (xL X) (nn c)) 170 16 (nn (xL X + 1)), ?_, ?_, ?_, ?_, by rw [u2n _ _ _ _ _ (by decide), u2n _ _ _ _ _ (by decide)]⟩
    · unfold m_126 m_125
      rw [h166]
      simp (disch := omega) only [hl, g2, if_true, nn_mull, nn_mulr, nn_addl, nn_addr, nn_add, nn_mul, tn_nn, tn_l, inb_nn, inb_l, zCk_t, ite_self, zBd_s, zBd_s, hc2]
      simp only [show ((1 : Int32) = 0) = False from by decide, if_false, u2_s]
    · unfold m_127
      rw [u2n _ _ _ _ 170 (by decide), u2n _ _ _ _ 170 (by decide), h16]
      simp (disch := omega) only [he, g, if_false, nn_mull, nn_mulr, nn_addl, nn_addr, nn_add, nn_mul, tn_nn, tn_l, inb_nn, inb_l, zCk_t, ite_self, zBd_s, hc2]
    · refine iv_mk (X' := xtxt X (xL X + 1) (zeU1 (xC X) (xL X) (nn c))) (im1 := zeU2 (zeU2 im 167 (xL X) (nn c)) 166 0 (nn (xL X + 1))) hG ?_ ?_ ?_ ?_ ?_ ?_ ?_ (q' := q) (R' := R)
      · refine ⟨hX.1, hX.2.1, hX.2.2.1, by show xL X + 1 ≤ 70; omega, ?_⟩
        intro i hi
        show ∃ c', c' < 65536 ∧ zeU1 (xC X) (xL X) (nn c) i = nn c'
        have hi : i < xL X + 1 := hi
        rw [u1e]
        by_cases gi : i = xL X
        · rw [if_pos gi]; exact ⟨c, hc1, rfl⟩
        · rw [if_neg gi]; exact hX.2.2.2.2 i (by omega)
      · exact NW_of hG (fun a ha => ⟨by rw [u2n _ _ _ _ _ (by omega), u2n _ _ _ _ _ (by omega)], rfl⟩) hn
      · obtain ⟨⟨t, ht, k1, k2, k3⟩, k4, k5, k6⟩ := hc
        refine ⟨⟨t, ht, ?_, ?_, ?_⟩, ?_, ?_, ?_⟩
        · rw [u2n _ _ _ _ _ (by decide), u2n _ _ _ _ _ (by decide)]; exact k1
        · rw [u2n _ _ _ _ _ (by decide), u2n _ _ _ _ _ (by decide)]; exact k2
        · intro i hi
          exact CR_same (GD_E (hX.2.1 i hi)) (fun j hj => ⟨by rw [u2n _ _ _ _ _ (by omega), u2n _ _ _ _ _ (by omega)], rfl⟩) (k3 i hi)
        · intro s hs
          rw [u2n _ _ _ _ _ (by decide), u2n _ _ _ _ _ (by decide)]
          refine ⟨(k4 s hs).1, fun gs => ?_⟩
          have gs : xT X s = 1 := gs
          have hgs : GD (xS X s) := by
            rcases hX.2.2.1 s hs with g2 | g2
            · rw [gs] at g2; exact absurd g2 (by decide)
            · exact g2.2
          exact CR_same (GD_E hgs) (fun j hj => ⟨by rw [u2n _ _ _ _ _ (by omega), u2n _ _ _ _ _ (by omega)], rfl⟩) ((k4 s hs).2 gs)
        · exact u2_s _ _ _ _
        · intro i hi
          show _ = zeU1 (xC X) (xL X) (nn c) i
          have hi : i < xL X + 1 := hi
          rw [u2n _ _ _ _ _ (by decide), u2_e, u1e]
          by_cases gi : i = xL X
          · rw [if_pos gi, if_pos ⟨rfl, gi⟩]
          · rw [if_neg gi, if_neg (fun h => gi h.2)]; exact k6 i (by omega)
      · intro a ha; rw [u2n _ _ _ _ _ (by omega), u2n _ _ _ _ _ (by omega)]
      · simp (disch := omega) only [u2n]; exact hR
      · rw [u2_j _ _ _ _ _ _ (by decide), u2n _ _ _ _ _ (by decide), u2n _ _ _ _ _ (by decide), u2n _ _ _ _ _ (by decide)]; exact hq
      · obtain ⟨m1, m2, m3, m4, m5⟩ := hm
        refine ⟨?_, ?_, ?_, ?_, ?_⟩
        · rw [u2_j _ _ _ _ _ _ (by decide), u2n _ _ _ _ _ (by decide), u2n _ _ _ _ _ (by decide), u2n _ _ _ _ _ (by decide)]; exact m1
        · intro i hi; refine Eq.trans ?_ (m2 i hi); unfold hr; simp (disch := omega) only [u2n]
        · intro s hs
          refine ⟨?_, fun gs => ?_⟩
          · simp (disch := omega) only [u2n]; exact (m3 s hs).1
          · refine Eq.trans ?_ ((m3 s hs).2 gs); unfold hr; simp (disch := omega) only [u2n]
        · exact u2_s _ _ _ _
        · intro i hi
          show _ = zeU1 (xC X) (xL X) (nn c) i
          have hi : i < xL X + 1 := hi
          rw [u2n _ _ _ _ _ (by decide), u2_e, u1e]
          by_cases gi : i = xL X
          · rw [if_pos gi, if_pos ⟨rfl, gi⟩]
          · rw [if_neg gi, if_neg (fun h => gi h.2), u2n _ _ _ _ _ (by decide), u2n _ _ _ _ _ (by decide)]; exact m5 i (by omega)
    · intro a ha; rw [u2n _ _ _ _ _ (by omega), u2n _ _ _ _ _ (by omega), u2n _ _ _ _ _ (by omega), u2n _ _ _ _ _ (by omega)]
theorem st_128 : StE m_128 m_129 := by
  rintro im lm ⟨R, q, X, hG, hX, hn, hc, hR, hq, hm⟩
  have h166 := hc.2.2.1
  have h16 := hm.2.2.2.1
  refine ⟨nn (xL X), zeU2 im 166 0 0, lm, zeU2 (zeU2 im 166 0 0) 170 16 0, ?_, ?_, ?_, ?_, by rw [u2n _ _ _ _ _ (by decide)]⟩
  · unfold m_128; rw [h166]
  · unfold m_129; rw [u2n _ _ _ _ _ (by decide), h16]
  · refine iv_mk (X' := xtxt X 0 (xC X)) (im1 := zeU2 im 166 0 0) hG ?_ ?_ ?_ ?_ ?_ ?_ ?_ (q' := q) (R' := R)
    · exact ⟨hX.1, hX.2.1, hX.2.2.1, by show 0 ≤ 70; omega, fun i hi => absurd hi (Nat.not_lt_zero i)⟩
    · exact NW_of hG (fun a ha => ⟨by rw [u2n _ _ _ _ _ (by omega)], rfl⟩) hn
    · obtain ⟨⟨t, ht, k1, k2, k3⟩, k4, k5, k6⟩ := hc
      refine ⟨⟨t, ht, ?_, ?_, ?_⟩, ?_, ?_, ?_⟩
      · rw [u2n _ _ _ _ _ (by decide)]; exact k1
      · rw [u2n _ _ _ _ _ (by decide)]; exact k2
      · intro i hi
        exact CR_same (GD_E (hX.2.1 i hi)) (fun j hj => ⟨by rw [u2n _ _ _ _ _ (by omega)], rfl⟩) (k3 i hi)
      · intro s hs
        rw [u2n _ _ _ _ _ (by decide)]
        refine ⟨(k4 s hs).1, fun gs => ?_⟩
        have gs : xT X s = 1 := gs
        have hgs : GD (xS X s) := by
          rcases hX.2.2.1 s hs with g2 | g2
          · rw [gs] at g2; exact absurd g2 (by decide)
          · exact g2.2
        exact CR_same (GD_E hgs) (fun j hj => ⟨by rw [u2n _ _ _ _ _ (by omega)], rfl⟩) ((k4 s hs).2 gs)
      · exact u2_s _ _ _ _
      · intro i hi; exact absurd hi (Nat.not_lt_zero i)
    · intro a ha; rw [u2n _ _ _ _ _ (by omega)]
    · simp (disch := omega) only [u2n]; exact hR
    · rw [u2_j _ _ _ _ _ _ (by decide), u2n _ _ _ _ _ (by decide)]; exact hq
    · obtain ⟨m1, m2, m3, m4, m5⟩ := hm
      refine ⟨?_, ?_, ?_, ?_, ?_⟩
      · rw [u2_j _ _ _ _ _ _ (by decide), u2n _ _ _ _ _ (by decide)]; exact m1
      · intro i hi; refine Eq.trans ?_ (m2 i hi); unfold hr; simp (disch := omega) only [u2n]
      · intro s hs
        refine ⟨?_, fun gs => ?_⟩
        · simp (disch := omega) only [u2n]; exact (m3 s hs).1
        · refine Eq.trans ?_ ((m3 s hs).2 gs); unfold hr; simp (disch := omega) only [u2n]
      · exact u2_s _ _ _ _
      · intro i hi; exact absurd hi (Nat.not_lt_zero i)
  · intro a ha; rw [u2n _ _ _ _ _ (by omega), u2n _ _ _ _ _ (by omega)]
