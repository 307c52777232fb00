/-! JUDGED in the law *-/
theorem ix_lt {R : Nat → Int32} (hG : GD R) {k : Nat} (hk : k < rE R) (h4 : ¬ R (60 + 5 * k + 1) = 4) : aRej R (nn k) = (nn (cntN (dfN R (rejR R k)) 6), rejR R k, 0) := by
  unfold aRej
  rw [if_neg (ix_eb hG hk), tn_nn k (by have := hG.2.1.2; omega), if_neg h4]
theorem LI_rej {N : Nat} {R : Nat → Int32} (hL : LI N R) (k : Nat) (hk : k < 60) : LI N (rejR R k) := by
  unfold rejR
  refine LI_c (u1_n _ _ _ _ (by omega)) (u1_n _ _ _ _ (by omega)) (fun j hj => u1_n _ _ _ _ (by omega)) (fun h => ⟨?_, u1_n _ _ _ _ (by omega), u1_n _ _ _ _ (by omega)⟩) hL
  rw [u1_n _ _ _ _ (by omega)] at h; exact h
/-- the scores written down -/
theorem f193_85 {gn r : Nat} (hr : 168 ≤ r) (hg : gC gn r = true) {R : Nat → Int32} {q : Int32} {im0 : zI} {lm : zJ} (hG : GD R) (h : ∀ im, (∀ a, a < 168 → im a = im0 a) → QF im lm R q) (l1 l2 l6 : Int32) (l3 : Int64) : ∀ d p n im, p + d = rN R → d < n → (∀ a, a < 168 → im a = im0 a) → (∀ j, j < p → im r j = sc R j) → ∃ im', F_193_85 n l1 l2 l3 r l6 (nn p) gn im lm = (zBp gn (m_122 l2 im' lm) fun v2 im2 lm2 => F_193_126 2000 l1 l2 l3 r l6 v2 0 0 gn im2 lm2) ∧ (∀ a, a < 168 → im' a = im0 a) ∧ ∀ j, j < rN R → im' r j = sc R j := by
  have h6 := hG.1.2
  intro d
  induction d with
  | zero =>
    intro p n im hp hn hi hs
    obtain ⟨m, rfl⟩ : ∃ m, n = m + 1 := ⟨n - 1, by omega⟩
    have : p = rN R := by omega
    subst this
    refine ⟨im, ?_, hi, hs⟩
    unfold F_193_85
    rw [(QF_c (h im hi)).2.1, zBp_s, hG.1.1, if_pos (Int32.le_refl _)]
  | succ d ih =>
    intro p n im hp hn hi hs
    obtain ⟨m, rfl⟩ : ∃ m, n = m + 1 := ⟨n - 1, by omega⟩
    have hpN : p < rN R := by omega
    have ip : zeInb (nn p) 6 = true := inb_nn p 6 (by omega) (by omega)
    have tp : Int32.toNatClampNeg (nn p) = p := tn_nn p (by omega)
    obtain ⟨im', c1, c2, c3⟩ := ih (p + 1) m (zeU2 im r p (sc R p)) (by omega) (by omega) (fun a ha => by rw [u2n _ _ _ _ _ (by omega)]; exact hi a ha) (fun j hj => by
      rw [u2r, u1e]
      by_cases g : j = p
      · rw [if_pos g, g]
      · rw [if_neg g]; exact hs j (by omega))
    refine ⟨im', ?_, c2, c3⟩
    unfold F_193_85
    rw [(QF_c (h im hi)).2.1, zBp_s, hG.1.1, if_neg (show ¬ nn (rN R) ≤ nn p by rw [nn_le _ _ (by omega) (by omega)]; omega), (h im hi).1, (q_pl hG hpN).1, zBp_s, hg, zCkn_t, ip, zCkn_t, tp, show nn p + 1 = nn (p + 1) from nn_addr p 1]
    exact c1
/-- the scores compared -/
theorem f193_126 {gn r : Nat} (hg : gC gn r = true) {R R' : Nat → Int32} {q : Int32} {im : zI} {lm : zJ} (hG : GD R') (h : QF im lm R' q) (hs : ∀ j, j < rN R' → im r j = sc R j) (l1 l2 l6 : Int32) (l3 : Int64) (l7 : Int32) : ∀ d p n, p + d = rN R' → d < n → F_193_126 (n + 1) l1 l2 l3 r l6 l7 (nn (cntN (dfN R R') p)) (nn p) gn im lm = F_193_126 (n + 1 - d) l1 l2 l3 r l6 l7 (nn (cntN (dfN R R') (rN R'))) (nn (rN R')) gn im lm := by
  have h6 := hG.1.2
  intro d
  induction d with
  | zero =>
    intro p n hp hn
    have : p = rN R' := by omega
    subst this
    rfl
  | succ d ih =>
    intro p n hp hn
    obtain ⟨m, rfl⟩ : ∃ m, n = m + 1 := ⟨n - 1, by omega⟩
    have hpN : p < rN R' := by omega
    have ip : zeInb (nn p) 6 = true := inb_nn p 6 (by omega) (by omega)
    have tp : Int32.toNatClampNeg (nn p) = p := tn_nn p (by omega)
    rw [show m + 1 + 1 - (d + 1) = m + 1 - d by omega, ← ih (p + 1) m (by omega) (by omega)]
    have e : (if im r p = sc R' p then nn (cntN (dfN R R') p) + 0 else nn (cntN (dfN R R') p) + 1) = nn (cntN (dfN R R') (p + 1)) := by
      show _ = nn (cntN (dfN R R') p + (if dfN R R' p = true then 1 else 0))
      have ed : dfN R R' p = !decide (sc R' p = sc R p) := rfl
      rw [hs p hpN]
      by_cases g : sc R p = sc R' p
      · rw [if_pos g, ed, decide_eq_true g.symm, if_neg (by decide)]; exact nn_addr _ 0
      · rw [if_neg g, ed, decide_eq_false (fun hh => g hh.symm), if_pos (show (!false) = true from rfl)]; exact nn_addr _ 1
    rw [show F_193_126 (m + 1 + 1) l1 l2 l3 r l6 l7 (nn (cntN (dfN R R') p)) (nn p) gn im lm = F_193_126 (m + 1) l1 l2 l3 r l6 l7 (if im r p = sc R' p then nn (cntN (dfN R R') p) + 0 else nn (cntN (dfN R R') p) + 1) (nn p + 1) gn im lm from by
      rw [F_193_126]
      rw [(QF_c h).2.1, zBp_s, hG.1.1, if_neg (show ¬ nn (rN R') ≤ nn p by rw [nn_le _ _ (by omega) (by omega)]; omega), hg, zCkn_t, ip, zCkn_t, h.1, (q_pl hG hpN).1, zBp_s, tp], e, show nn p + 1 = nn (p + 1) from nn_addr p 1]
theorem dfN_n {R : Nat → Int32} (hG : GD R) {k : Nat} (hk : k < rE R) (h4 : ¬ R (60 + 5 * k + 1) = 4) : cntN (dfN R (rejR R k)) 6 = cntN (dfN R (rejR R k)) (rN R) := by
  have h6 := hG.1.2
  have hG2 := GD_rej hG hk h4
  have eN : rN (rejR R k) = rN R := by unfold rN rejR; rw [u1_n _ _ _ _ (by omega)]
  have hz : ∀ p, rN R ≤ p → dfN R (rejR R k) p = false := by
    intro p hp
    have e1 : sc R p = 0 := zsc_0 (fun k hk => (hG.2.2.1 k hk).2) (rE R) (Nat.le_refl _) p hp
    have e2 : sc (rejR R k) p = 0 := zsc_0 (N := rN R) (fun j hj => by have := (hG2.2.2.1 j hj).2; omega) (rE (rejR R k)) (Nat.le_refl _) p hp
    unfold dfN
    rw [e1, e2]; rfl
  have : ∀ d, cntN (dfN R (rejR R k)) (rN R + d) = cntN (dfN R (rejR R k)) (rN R) := by
    intro d
    induction d with
    | zero => rfl
    | succ d ih =>
      show cntN (dfN R (rejR R k)) (rN R + d) + (if dfN R (rejR R k) (rN R + d) = true then 1 else 0) = _
      rw [hz _ (by omega), ih, if_neg (by decide)]; rfl
  have h := this (6 - rN R)
  rw [show rN R + (6 - rN R) = 6 by omega] at h
  exact h
/-- what judged answers: 1, and the invariant again; one row more, or none -/
def LPn (N gn : Nat) (im : zI) (X : zX) (r : zRn) : Prop := ∃ n im' lm' R' q' X', r = some ((1, n), im', lm') ∧ gn ≤ n ∧ n ≤ gn + 1 ∧ CI im' lm' R' q' X' ∧ LI N R' ∧ (xT X' = xT X ∧ xS X' = xS X) ∧ im' 0 = im 0
theorem lg_z (x : Int64) : (lg_cmp x x = 0) := by
  unfold lg_cmp
  simp
theorem okR_c (k : Nat) (h : k ≤ 6) : okR (nn k) := okR_nn k (by omega)
theorem m_193_v {im : zI} {lm : zJ} {R : Nat → Int32} {q : Int32} {X : zX} {N : Nat} (hc : CI im lm R q X) (hL : LI N R) (l1 : Int32) {gn : Nat} (hgn : 154 ≤ gn) : LPn N gn im X (m_193 l1 gn im lm) := by
  have hG := hc.1
  have h6 := hG.1.2
  have h60 := hG.2.1.2
  have hq := QF_of hc
  obtain ⟨k, hk, ek⟩ := low_ok l1 (rE R + 1) (by omega) (by omega)
  unfold m_193
  rw [(QF_c hq).2.2.2.2.2.1, zBp_s, hG.2.1.1, show nn (rE R) + 1 = nn (rE R + 1) from nn_addr _ 1, ek im lm, zBp_s, m_192_v hG hq, zBJ_s, (QF_c hq).2.2.2.2.2.1, zBp_s, hG.2.1.1]
  by_cases g : k = rE R
  · have hA : aRej R (nn k) = (-10000001, R, 0) := by unfold aRej; rw [if_pos (Or.inr (by rw [hG.2.1.1, g]; exact Int32.le_refl _))]
    obtain ⟨im1, lm1, a1, a2, a3⟩ := AD_e (AD_rej hG (nn k)) hA hc
    rw [if_pos (by rw [g]), a1, zBp_s, if_pos rfl]
    exact ⟨gn, im1, lm1, _, _, _, rfl, by omega, by omega, a2, hL, xrec_T _ _ _, a3 0 (Or.inl (by decide))⟩
  · have hkE : k < rE R := by omega
    obtain ⟨b0, b1, b2, b3, b4, b5, b6, b7, b8⟩ := q_en hG hkE
    rw [if_neg (show ¬ nn k = nn (rE R) by rw [nn_inj _ _ (by omega) (by omega)]; exact g), hq.2.2.2.2.1, b1, zBp_s]
    by_cases g4 : R (60 + 5 * k + 1) = 4
    · have hA : aRej R (nn k) = (-10000002, R, 0) := by unfold aRej; rw [if_neg (ix_eb hG hkE), tn_nn k (by omega), if_pos g4]
      obtain ⟨im1, lm1, a1, a2, a3⟩ := AD_e (AD_rej hG (nn k)) hA hc
      rw [if_pos g4, a1, zBp_s, if_pos rfl]
      exact ⟨gn, im1, lm1, _, _, _, rfl, by omega, by omega, a2, hL, xrec_T _ _ _, a3 0 (Or.inl (by decide))⟩
    · have hb : Nat.ble 154 gn = true := g_ble_t hgn
      have hg : gC (gn + 1) (16 + gn) = true := by
        unfold gC
        rw [g_ble_t (show 170 ≤ 16 + gn by omega), show Nat.blt (16 + gn) (16 + (gn + 1)) = true from g_ble_t (by omega)]; rfl
      have c4 := CI_new hc (r := 16 + gn) (by omega) (fun _ => 0) (fun _ => 0)
      have z0 : (zeU1 im (16 + gn) (fun _ => 0)) 0 = im 0 := u1_n _ _ _ _ (by omega)
      rw [if_neg g4, hb, zCkn_t]
      generalize zeU1 im (16 + gn) (fun _ => 0) = im4 at c4 z0 ⊢
      generalize zeU1 lm (16 + gn) (fun _ => 0) = lm4 at c4 ⊢
      have hq4 := QF_of c4
      rw [hq4.2.2.2.2.1, b5, zBp_s]
      obtain ⟨im5, d1, d2, d3⟩ := f193_85 (by omega) hg hG (fun im2 hi => QF_of (CI_fr (fun a ha => ⟨hi a ha, rfl⟩) c4)) l1 (nn k) (orN (R (60 + 5 * k + 4))) (DG R) (rN R) 0 2000 im4 (by omega) (by omega) (fun _ _ => rfl) (fun j hj => absurd hj (Nat.not_lt_zero j))
      have c5 : CI im5 lm4 R q X := CI_fr (fun a ha => ⟨d2 a ha, rfl⟩) c4
      have hA := ix_lt hG hkE g4
      obtain ⟨im6, lm6, a1, a2, a3⟩ := AD_e (AD_rej hG (nn k)) hA c5
      have eN : rN (rejR R k) = rN R := by unfold rN rejR; rw [u1_n _ _ _ _ (by omega)]
      have eE : rE (rejR R k) = rE R := by unfold rE rejR; rw [u1_n _ _ _ _ (by omega)]
      have ej : rejR R k (60 + 5 * k + 4) = 1 - R (60 + 5 * k + 4) := by unfold rejR; rw [u1_s]
      have hdn := dfN_n hG hkE g4
      have hL2 := LI_rej hL k (by omega)
      have h01 := EG_01 (hG.2.2.1 k hkE).1 g4
      have o1 := (one_sub h01)
      refine (show F_193_85 2000 l1 (nn k) (DG R) (16 + gn) (orN (R (60 + 5 * k + 4))) 0 (gn + 1) im4 lm4 = _ from d1) ▸ ?_
      rw [a1, zBp_s]
      have hok : okR (nn (cntN (dfN R (rejR R k)) 6)) := okR_nn _ (by have := cntN_le (dfN R (rejR R k)) 6; omega)
      rw [xrec_ok hok] at a2
      generalize hR2 : rejR R k = R' at a1 a2 eN eE ej hdn hL2
      have hq6 := QF_of a2
      have hG2 := a2.1
      have hrow : ∀ j, j < rN R' → im6 (16 + gn) j = sc R j := fun j hj => by rw [a3 (16 + gn) (Or.inr (by omega))]; exact d3 j (by omega)
      have e126 := f193_126 hg hG2 hq6 hrow l1 (nn k) (orN (R (60 + 5 * k + 4))) (DG R) (nn (cntN (dfN R R') 6)) (rN R') 0 1999 (by omega) (by omega)
      have e60 : im6 0 = im 0 := by rw [a3 0 (Or.inl (by decide)), d2 0 (by decide), z0]
      obtain ⟨z, hz⟩ : ∃ z, 1999 + 1 - rN R' = z + 1 := ⟨1999 - rN R', by omega⟩
      rw [hz] at e126
      have e126' : F_193_126 2000 l1 (nn k) (DG R) (16 + gn) (orN (R (60 + 5 * k + 4))) (nn (cntN (dfN R R') 6)) 0 0 (gn + 1) im6 lm6 = _ := e126
      rw [e126', F_193_126]
      rw [(QF_c hq6).2.1, zBp_s, hG2.1.1, if_pos (Int32.le_refl _), if_pos (show nn (cntN (dfN R R') 6) = nn (cntN (dfN R R') (rN R')) by rw [hdn, eN]), hq6.2.2.2.2.1, (q_en hG2 (show k < rE R' by omega)).2.2.2.2.2.1, zBp_s, ej, o1.2.2, o1.2.1, if_pos rfl]
      by_cases g9 : (l1 &&& 512) = 0
      · rw [if_pos g9]
        exact ⟨gn + 1, im6, lm6, _, _, _, rfl, by omega, by omega, a2, hL2, ⟨rfl, rfl⟩, e60⟩
      · have hKp : 0 < xK (xpush R X) := by
          show 0 < (if xK X = 5 then 5 else xK X + 1)
          by_cases g : xK X = 5
          · rw [if_pos g]; omega
          · rw [if_neg g]; omega
        obtain ⟨im7, lm7, f1, f2, f3⟩ := C_undo a2 hKp
        have hH : xH (xpush R X) (xK (xpush R X) - 1) = R := by
          show (if xK X = 5 then (if (if xK X = 5 then 5 else xK X + 1) - 1 = 4 then R else _) else (if (if xK X = 5 then 5 else xK X + 1) - 1 = xK X then R else _)) = R
          by_cases g : xK X = 5
          · simp only [if_pos g]; rw [if_pos (by decide)]
          · simp only [if_neg g]; rw [if_pos (by omega)]
        rw [hH] at f2
        have hK5 : xK (xpush R X) ≤ 5 := a2.2.1.1
        rw [if_neg g9, f1, zBp_s, if_neg (nn_neg _ (by omega)), m_192_v f2.1 (QF_of f2), zBJ_s, if_pos (lg_z _)]
        exact ⟨gn + 1, im7, lm7, R, _, _, rfl, by omega, by omega, f2, hL, ⟨rfl, rfl⟩, (f3 0 (Or.inl (by decide))).trans e60⟩
