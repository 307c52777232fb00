/-! THE CLASS'S INVARIANT; undo, keep, restore; acts and questions *-/
def CI (im : zI) (lm : zJ) (R : Nat → Int32) (q : Int32) (X : zX) : Prop := GD R ∧ XG X ∧ NW im lm R q ∧ CX im lm X
theorem CI_fr {im im' : zI} {lm lm' : zJ} {R : Nat → Int32} {q : Int32} {X : zX} (h : ∀ a, a < 168 → im' a = im a ∧ lm' a = lm a) (hc : CI im lm R q X) : CI im' lm' R q X :=
  ⟨hc.1, hc.2.1, NW_of hc.1 (fun a ha => h a (by omega)) hc.2.2.1, CX_of hc.2.1 (fun a _ h2 => h a h2) hc.2.2.2⟩
theorem CI_act {D : zI → zJ → zR} {R : Nat → Int32} {A : zA} {q : Int32} {X : zX} {im : zI} {lm : zJ} (hD : DoA D R A) (hG' : GD A.2.1) (hc : CI im lm R q X) : ∃ im' lm', actW D im lm = some (A.1, im', lm') ∧ CI im' lm' A.2.1 (rsn q A.2.2) (xrec A.1 R X) ∧ FA im im' := by
  obtain ⟨hG, hX, hn, hx⟩ := hc
  obtain ⟨im', lm', h1, h2, h3, h4⟩ := sW hG hG' hX hx hn (hD q)
  exact ⟨im', lm', h1, ⟨hG', XG_rec hG hX, h2, h3⟩, h4⟩
theorem CI_q {D : zI → zJ → zR} {R : Nat → Int32} {r q : Int32} {X : zX} {im : zI} {lm : zJ} (h : QC D R r) (hc : CI im lm R q X) : D im lm = some (r, im, lm) := h im lm q hc.2.2.1
theorem FA_r (im : zI) : FA im im := fun _ _ => rfl
theorem FA_t {a b c : zI} (h : FA a b) (h2 : FA b c) : FA a c := fun x hx => (h2 x hx).trans (h x hx)
theorem C_undo0 {im : zI} {lm : zJ} {R : Nat → Int32} {q : Int32} {X : zX} (hc : CI im lm R q X) (h : xK X = 0) : m_146 im lm = some (-10000005, im, lm) := by
  obtain ⟨hG, hX, hn, hc⟩ := hc
  obtain ⟨⟨t, ht, k1, k2, k3⟩, _⟩ := hc
  unfold m_146; rw [k1, h, if_pos (show nn 0 = 0 from rfl)]
theorem C_undo {im : zI} {lm : zJ} {R : Nat → Int32} {q : Int32} {X : zX} (hc : CI im lm R q X) (hK : 0 < xK X) : ∃ im' lm', m_146 im lm = some (nn (xK X - 1), im', lm') ∧ CI im' lm' (xH X (xK X - 1)) q (xundo X) ∧ FA im im' := by
  obtain ⟨hG, hX, hn, hc⟩ := hc
  obtain ⟨⟨t, ht, k1, k2, k3⟩, k4, k5, k6⟩ := id hc
  have hK5 := hX.1
  have hz : (nn (xK X) = 0) = (xK X = 0) := by rw [show (0 : Int32) = nn 0 from rfl]; exact nn_inj _ _ (by omega) (by omega)
  have g : ¬ xK X = 0 := by omega
  have hGH := hX.2.1 (xK X - 1) (by omega)
  have hb := k3 (xK X - 1) (by omega)
  rw [show (t + 6 - xK X + (xK X - 1)) % 6 = (t + 5) % 6 by omega] at hb
  generalize hu : (t + 5) % 6 = u at hb
  have hu6 : u < 6 := by omega
  have hcb : CR (zeU2 (zeU2 im 42 1 (nn u)) 42 0 (nn (xK X - 1))) lm (44 + 15 * u) (xH X (xK X - 1)) := CR_same (GD_E hGH) (fun i hi => ⟨by rw [u2n _ _ _ _ _ (by omega), u2n _ _ _ _ _ (by omega)], rfl⟩) hb
  obtain ⟨im2, a1, a2, a3⟩ := ld_NW (q := q) (b := 44 + 15 * u) (by omega) hGH hcb (by rw [u2n _ _ _ _ _ (by decide), u2n _ _ _ _ _ (by decide)]; exact hn.2.2.1) (by rw [u2n _ _ _ _ _ (by decide), u2n _ _ _ _ _ (by decide)]; exact hn.2.2.2)
  have hf : ∀ a, (a < 17 ∨ 40 < a) → a ≠ 42 → im2 a = im a ∧ cpL lm 17 (44 + 15 * u) a = lm a := fun a h1 h2 => by
    refine ⟨?_, (a3 a h1).2⟩
    rw [(a3 a h1).1, u2n _ _ _ _ _ h2, u2n _ _ _ _ _ h2]
  have f42 : im2 42 0 = nn (xK X - 1) ∧ im2 42 1 = nn u := by
    rw [(a3 42 (by omega)).1, u2_s, u2_j _ _ _ _ _ _ (by decide), u2_s]; exact ⟨rfl, rfl⟩
  have hC : m_146 im lm = some (nn (xK X - 1), im2, cpL lm 17 (44 + 15 * u)) := by
    unfold m_146
    rw [k1]
    simp only [hz, g, if_false]
    rw [s144 im lm (xK X) t hK hK5 ht k1 k2, zBd_s, hu, s146_sw _ _ u hu6, a1, zBd_s, zBd_s, f42.1]
  refine ⟨im2, cpL lm 17 (44 + 15 * u), hC, ⟨hGH, ?_, a2, ?_⟩, fun a ha => (hf a (by omega) (by omega)).1⟩
  · exact ⟨by show xK X - 1 ≤ 5; omega, fun i hi => hX.2.1 i (by have hi : i < xK X - 1 := hi; omega), hX.2.2.1, hX.2.2.2.1, hX.2.2.2.2⟩
  · refine ⟨⟨u, hu6, f42.1, f42.2, ?_⟩, CX_cells (X := X) hX (fun a h1 h2 => hf a (by omega) (by omega)) hc⟩
    intro i hi
    have hi : i < xK X - 1 := hi
    show CR im2 _ (44 + 15 * ((u + 6 - (xK X - 1) + i) % 6)) (xH X i)
    rw [show (u + 6 - (xK X - 1) + i) % 6 = (t + 6 - xK X + i) % 6 by omega]
    exact CR_same (GD_E (hX.2.1 i (by omega))) (fun j hj => hf _ (by omega) (by omega)) (k3 i (by omega))
theorem C_slno (x : Int32) (h : x < 0 ∨ (2 : Int32) ≤ x) (im : zI) (lm : zJ) : m_149 x im lm = some (-10000001, im, lm) ∧ m_151 x im lm = some (-10000001, im, lm) := by
  constructor
  · unfold m_149; rw [(ix_no (n := 2) (N := 2) rfl (by omega) h).1, if_pos rfl]
  · unfold m_151; rw [(ix_no (n := 2) (N := 2) rfl (by omega) h).1, if_pos rfl]
theorem C_keep {im : zI} {lm : zJ} {R : Nat → Int32} {q : Int32} {X : zX} (hc : CI im lm R q X) (s : Nat) (hs : s < 2) : ∃ im' lm', m_149 (nn s) im lm = some (R 5, im', lm') ∧ CI im' lm' R q (xkeep X s R) ∧ FA im im' := by
  obtain ⟨hG, hX, hn, hc⟩ := hc
  obtain ⟨⟨t, ht, k1, k2, k3⟩, k4, k5, k6⟩ := id hc
  have hcp : CR (cpI im (135 + 15 * s) 17) (cpL lm (135 + 15 * s) 17) (135 + 15 * s) R := CR_cp (cp_rg im lm _ _ (by omega)) (GD_E hG) hn.1
  have hf : ∀ a, (a < 135 + 15 * s ∨ 135 + 15 * s + 15 ≤ a) → a ≠ 165 → zeU2 (cpI im (135 + 15 * s) 17) 165 s 1 a = im a ∧ cpL lm (135 + 15 * s) 17 a = lm a := fun a h1 h2 => by
    rw [u2n _ _ _ _ _ h2]; exact cp_fr im lm _ _ a h1
  have hf165 : cpI im (135 + 15 * s) 17 165 = im 165 := (cp_fr im lm (135 + 15 * s) 17 165 (Or.inr (by omega))).1
  generalize him1 : zeU2 (cpI im (135 + 15 * s) 17) 165 s 1 = im1 at hf
  have f165 : im1 165 = zeU1 (im 165) s 1 := by rw [← him1, u2r, hf165]
  have hcs : CR im1 (cpL lm (135 + 15 * s) 17) (135 + 15 * s) R := CR_same (GD_E hG) (fun i hi => ⟨by rw [← him1, u2n _ _ _ _ _ (by omega)], rfl⟩) hcp
  refine ⟨im1, cpL lm (135 + 15 * s) 17, ?_, ⟨hG, ?_, ?_, ?_⟩, fun a ha => (hf a (by omega) (by omega)).1⟩
  · rw [s149 im lm s hs, him1]
    have : im 26 0 = R 5 := hn.1.2.2.1.1
    rw [this]
  · refine ⟨hX.1, hX.2.1, ?_, hX.2.2.2.1, hX.2.2.2.2⟩
    intro s' hs'
    show zeU1 (xT X) s 1 s' = 0 ∨ zeU1 (xT X) s 1 s' = 1 ∧ GD (zeU1 (xS X) s R s')
    rw [u1e, u1e]
    by_cases g : s' = s
    · rw [if_pos g, if_pos g]; exact Or.inr ⟨rfl, hG⟩
    · rw [if_neg g, if_neg g]; exact hX.2.2.1 s' hs'
  · exact NW_of hG (fun a ha => hf a (by omega) (by omega)) hn
  · refine ⟨⟨t, ht, ?_, ?_, ?_⟩, ?_, ?_, ?_⟩
    · rw [(hf 42 (by omega) (by decide)).1]; exact k1
    · rw [(hf 42 (by omega) (by decide)).1]; exact k2
    · intro i hi
      have hi : i < xK X := hi
      have := hX.1
      exact CR_same (GD_E (hX.2.1 i hi)) (fun j hj => hf _ (by omega) (by omega)) (k3 i hi)
    · intro s' hs'
      show im1 165 s' = zeU1 (xT X) s 1 s' ∧ (zeU1 (xT X) s 1 s' = 1 → CR im1 _ (135 + 15 * s') (zeU1 (xS X) s R s'))
      rw [f165, u1e, u1e, u1e]
      by_cases g : s' = s
      · subst g
        rw [if_pos rfl, if_pos rfl, if_pos rfl]
        exact ⟨rfl, fun _ => hcs⟩
      · rw [if_neg g, if_neg g, if_neg g]
        refine ⟨(k4 s' hs').1, fun gs => ?_⟩
        have hgs : GD (xS X s') := by
          rcases hX.2.2.1 s' hs' with g2 | g2
          · rw [gs] at g2; exact absurd g2 (by decide)
          · exact g2.2
        exact CR_same (GD_E hgs) (fun j hj => hf _ (by omega) (by omega)) ((k4 s' hs').2 gs)
    · rw [(hf 166 (by omega) (by decide)).1]; exact k5
    · rw [(hf 167 (by omega) (by decide)).1]; exact k6
theorem C_rest0 {im : zI} {lm : zJ} {R : Nat → Int32} {q : Int32} {X : zX} (hc : CI im lm R q X) (s : Nat) (hs : s < 2) (hz : xT X s = 0) : m_151 (nn s) im lm = some (-10000005, im, lm) := by
  obtain ⟨hG, hX, hn, hc⟩ := hc
  have py : (if nn s < 0 then 0 else if (2 : Int32) ≤ nn s then 0 else 1 : Int32) = 1 := (ix_yes (n := 2) (N := 2) rfl (by omega) hs).1
  have h165 := (hc.2.1 s hs).1
  unfold m_151; rw [py, if_neg (by decide)]
  simp (disch := omega) only [nn_mull, nn_mulr, nn_addl, nn_addr, nn_add, nn_mul, tn_nn, tn_l, inb_nn, inb_l, zCk_t, ite_self, zBd_s, h165]
  rw [hz, if_pos rfl]
theorem C_rest {im : zI} {lm : zJ} {R : Nat → Int32} {q : Int32} {X : zX} (hc : CI im lm R q X) (s : Nat) (hs : s < 2) (hz : xT X s = 1) : ∃ im' lm', m_151 (nn s) im lm = some (xS X s 5, im', lm') ∧ CI im' lm' (xS X s) q (xpush R X) ∧ FA im im' := by
  obtain ⟨hG, hX, hn, hc⟩ := hc
  have h165 := (hc.2.1 s hs).1
  have hGs : GD (xS X s) := by
    rcases hX.2.2.1 s hs with h | h
    · rw [hz] at h; exact absurd h (by decide)
    · exact h.2
  obtain ⟨im1, lm1, a1, a2, a3, a4⟩ := s15_tr hG hX hc hn
  have hcs : CR im1 lm1 (135 + 15 * s) (xS X s) := (a2.1.2.1 s hs).2 hz
  obtain ⟨im2, b1, b2, b3⟩ := ld_NW (q := q) (b := 135 + 15 * s) (by omega) hGs hcs a3.2.2.1 a3.2.2.2
  have hT : TR im2 (cpL lm1 17 (135 + 15 * s)) X R := TR_of hG hX (fun a h1 h2 => b3 a (by omega)) a2
  obtain ⟨im3, c1, c2, c3⟩ := s20 hG hX hT
  have hC := s151 im im1 im2 im3 lm lm1 _ _ s hs (h165.trans hz) a1 b1 c1
  have h26 : im3 26 0 = xS X s 5 := by rw [c3 26 (by decide)]; exact b2.1.2.2.1.1
  rw [h26] at hC
  have hx3 : ∀ a, (a < 16 ∨ 168 ≤ a) → im3 a = im a := fun a ha => by rw [c3 a (by omega), (b3 a (by omega)).1, (a4 a (by omega)).1]
  exact ⟨im3, _, hC, ⟨hGs, XG_push hG hX, NW_of hGs (fun a ha => ⟨c3 a (by omega), rfl⟩) b2, c2⟩, hx3⟩
/-! questions, with small arguments -/
theorem ix_nb {R : Nat → Int32} (hG : GD R) {p : Nat} (hp : p < rN R) : ¬ (nn p < 0 ∨ R 1 ≤ nn p) := ix_not hG.1.1 (by have := hG.1.2; omega) hp
theorem ix_eb {R : Nat → Int32} (hG : GD R) {k : Nat} (hk : k < rE R) : ¬ (nn k < 0 ∨ R 5 ≤ nn k) := ix_not hG.2.1.1 (by have := hG.2.1.2; omega) hk
theorem q_pl {R : Nat → Int32} (hG : GD R) {p : Nat} (hp : p < rN R) : qPl R (nn p) 0 = sc R p ∧ qPl R (nn p) 1 = zrt R (rE R) p ∧ qPl R (nn p) 2 = zwr R (rE R) p ∧ qPl R (nn p) 3 = nn (1 + cntN (abB R (sc R p)) (rN R)) ∧ qPl R (nn p) 4 = nn (plc allB (bfB R) (rN R) p) ∧ qPl R (nn p) 5 = (if R 0 = 1 then orN (cnt R p) else -10000005) ∧ qPl R (nn p) 6 = orN (R (22 + p)) ∧ qPl R (nn p) 7 = zco R (rE R) p ∧ qPl R (nn p) 8 = -10000002 := by
  have h := ix_nb hG hp
  have h6 := hG.1.2
  unfold qPl
  simp only [h, if_false, tn_nn p (by omega)]
  refine ⟨rfl, rfl, rfl, rfl, rfl, rfl, rfl, rfl, rfl⟩
theorem q_en {R : Nat → Int32} (hG : GD R) {k : Nat} (hk : k < rE R) : qEn R (nn k) 0 = R (60 + 5 * k) ∧ qEn R (nn k) 1 = R (60 + 5 * k + 1) ∧ qEn R (nn k) 2 = orN (R (60 + 5 * k + 2)) ∧ qEn R (nn k) 3 = R (60 + 5 * k + 3) ∧ qEn R (nn k) 4 = zam R k ∧ qEn R (nn k) 5 = orN (R (60 + 5 * k + 4)) ∧ qEn R (nn k) 6 = zsc R (k + 1) (eP R k) ∧ qEn R (nn k) 7 = zb (vd R k = true) ∧ qEn R (nn k) 8 = -10000002 := by
  have h := ix_eb hG hk
  have h6 := hG.2.1.2
  unfold qEn
  simp only [h, if_false, tn_nn k (by omega)]
  refine ⟨rfl, rfl, rfl, rfl, rfl, rfl, rfl, rfl, rfl⟩
theorem q_no {R : Nat → Int32} (hG : GD R) (w : Int32) : qEn R (R 5) w = -10000001 ∧ qPl R (R 1) w = -10000001 := by
  unfold qEn qPl
  exact ⟨if_pos (Or.inr (Int32.le_refl _)), if_pos (Or.inr (Int32.le_refl _))⟩
theorem q_cl (R : Nat → Int32) {c : Nat} (hc : c < 25) : qCl R (nn c) 0 = nn (valC c) ∧ qCl R (nn c) 1 = zb (bt (R 11) c = true) ∧ qCl R (nn c) 2 = zb (bt (R 10) c = true) ∧ qCl R (nn c) 3 = nn (cntN (ansE R c) (rE R)) ∧ qCl R (nn c) 4 = zsl R (rE R) c := by
  have h : ¬ (nn c < 0 ∨ (25 : Int32) ≤ nn c) := ix_not (n := 25) (N := 25) rfl (by omega) hc
  unfold qCl
  simp only [h, if_false, tn_nn c (by omega)]
  refine ⟨rfl, rfl, rfl, rfl, rfl⟩
theorem q_cl25 (R : Nat → Int32) (w : Int32) : qCl R 25 w = -10000001 := by
  unfold qCl; exact if_pos (Or.inr (Int32.le_refl _))
/-- the answers that have been given in the final round -/
noncomputable def aF (R : Nat → Int32) : Nat := Classical.epsilon (fun a => F5 R a)
theorem aF_5 {im : zI} {lm : zJ} {R : Nat → Int32} {q : Int32} {X : zX} (hc : CI im lm R q X) (h : R 0 = 5) : F5 R (aF R) := by
  obtain ⟨a, _, ha⟩ := hc.2.2.1.1.2.2.2.2.2.2.2.1 h
  exact Classical.epsilon_spec (p := fun a => F5 R a) ⟨a, ha⟩
/-- count, but for the history's length and the text's -/
noncomputable def qC (R : Nat → Int32) (q w : Int32) : Int32 := qCo R q 0 0 (aF R) w
theorem C_co {im : zI} {lm : zJ} {R : Nat → Int32} {q : Int32} {X : zX} (hc : CI im lm R q X) (w : Int32) (h12 : ¬ w = 12) (h13 : ¬ w = 13) : m_177 w im lm = some (qC R q w, im, lm) := by
  obtain ⟨t, ht, hK, _⟩ := hc.2.2.2.1
  rw [Q_co hc.1 (fun h => aF_5 hc h) w hc.2.2.1 hK hc.2.2.2.2.2.1]
  unfold qC qCo
  simp only [h12, h13, if_false]
