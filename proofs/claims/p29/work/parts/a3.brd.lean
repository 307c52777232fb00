/-! THE BOARD in the law *-/
theorem cntN_nt (f : Nat → Bool) : ∀ n, cntN f n + cntN (fun i => !f i) n = n := by
  intro n
  induction n with
  | zero => rfl
  | succ n ih =>
    show cntN f n + (if f n = true then 1 else 0) + (cntN (fun i => !f i) n + (if (!f n) = true then 1 else 0)) = n + 1
    cases f n
    · rw [if_neg (by decide), if_pos (show (!false) = true from rfl)]; omega
    · rw [if_pos rfl, if_neg (by decide)]; omega
theorem cntN_ex {f : Nat → Bool} : ∀ n, 0 < cntN f n → ∃ k, k < n ∧ f k = true := by
  intro n
  induction n with
  | zero => intro h; exact absurd h (Nat.lt_irrefl 0)
  | succ n ih =>
    intro h
    have h : 0 < cntN f n + (if f n = true then 1 else 0) := h
    by_cases g : f n = true
    · exact ⟨n, by omega, g⟩
    · rw [if_neg g] at h
      obtain ⟨k, h1, h2⟩ := ih (by omega)
      exact ⟨k, by omega, h2⟩
/-- clues that are there, of the first k -/
def thr (R : Nat → Int32) (k : Nat) : Nat := cntN (fun i => !bt (R 10) i) k
theorem thr_p (R : Nat → Int32) : (25 : Int32) - nn (pop (R 10)) = nn (thr R 25) := by
  have h := cntN_nt (fun i => bt (R 10) i) 25
  have hp := pop_le (R 10)
  have : thr R 25 = 25 - pop (R 10) := by unfold thr pop at *; omega
  rw [this]
  exact nn_sub 25 (pop (R 10)) hp (by omega)
theorem or_1 {R : Nat → Int32} {k : Nat} (h : EG R k) : (orN (R (60 + 5 * k + 4)) = 1) = (R (60 + 5 * k + 4) = 1) ∧ (orN (R (60 + 5 * k + 4)) = 0) = (R (60 + 5 * k + 4) = 0) := by
  have : R (60 + 5 * k + 4) = 0 ∨ R (60 + 5 * k + 4) = 1 ∨ R (60 + 5 * k + 4) = -1 := by
    rcases h.2.1 with ⟨c, _, _, _, _, _, h1⟩ | ⟨_, _, h1⟩ | ⟨_, _, h1⟩
    · rcases h1 with h1 | h1
      · exact Or.inl h1
      · exact Or.inr (Or.inl h1)
    · rcases h1 with h1 | h1
      · exact Or.inl h1
      · exact Or.inr (Or.inl h1)
    · exact Or.inr (Or.inr h1)
  rcases this with g | g | g <;> rw [g] <;> decide
theorem f196_19 {im : zI} {lm : zJ} {R : Nat → Int32} {q : Int32} (hG : GD R) (h : QF im lm R q) (K : Int32 → Int32 → zI → zJ → zR) (l1 : Int32) (c : Nat) (hc : c < 25) : ∀ d e n, e + d = rE R → d < n → F_196_19 K n l1 (nn c) (nn (cntN (ansE R c) e)) (zsl R e c) (nn e) im lm = J_196_122 K (nn c) (nn (cntN (ansE R c) (rE R))) (zsl R (rE R) c) l1 (if zb (bt (R 10) c = true) = 0 then 1 else 0) im lm := by
  have h60 := hG.2.1.2
  intro d
  induction d with
  | zero =>
    intro e n he hn
    obtain ⟨m, rfl⟩ : ∃ m, n = m + 1 := ⟨n - 1, by omega⟩
    have : e = rE R := by omega
    subst this
    unfold F_196_19
    rw [(QF_c h).2.2.2.2.2.1, zBd_s, hG.2.1.1, if_pos (Int32.le_refl _), h.2.2.2.1, (q_cl R hc).2.2.1, zBd_s]
  | succ d ih =>
    intro e n he hn
    obtain ⟨m, rfl⟩ : ∃ m, n = m + 1 := ⟨n - 1, by omega⟩
    have h0 : ¬ nn (rE R) ≤ nn e := by rw [nn_le _ _ (by omega) (by omega)]; omega
    have hlt : e < rE R := by omega
    obtain ⟨hEG, _⟩ := hG.2.2.1 e hlt
    obtain ⟨a0, a1, a2, a3, a4, a5, a6, a7, a8⟩ := q_en hG hlt
    have hz : zsl R (e + 1) c = if ¬ 4 ≤ R (60 + 5 * e + 1) ∧ R (60 + 5 * e + 4) = 1 ∧ ¬ vd R e = true ∧ R (60 + 5 * e + 2) = nn c then nn (eP R e) else zsl R e c := rfl
    have hcn : cntN (ansE R c) (e + 1) = cntN (ansE R c) e + (if ansE R c e = true then 1 else 0) := rfl
    have hae : ansE R c e = decide (R (60 + 5 * e + 2) = nn c) := rfl
    have ih2 := ih (e + 1) m (by omega) (by omega)
    rw [hz, hcn, hae] at ih2
    unfold F_196_19
    rw [(QF_c h).2.2.2.2.2.1, zBd_s, hG.2.1.1, if_neg h0, h.2.2.2.2.1, a2, zBd_s]
    unfold J_196_45 J_196_58
    rw [show nn e + 1 = nn (e + 1) from nn_addr e 1]
    by_cases g : R (60 + 5 * e + 2) = nn c
    · have gs := (sort_lt hEG hc g).2
      rw [if_pos (show orN (R (60 + 5 * e + 2)) = nn c by rw [orN_nn (by omega)]; exact g), if_neg (show ¬ (1 : Int32) = 0 by decide), if_neg (show ¬ (1 : Int32) = 0 by decide), h.2.2.2.2.1, a5, zBd_s]
      rw [decide_eq_true g, if_pos rfl] at ih2
      rw [show nn (cntN (ansE R c) e) + 1 = nn (cntN (ansE R c) e + 1) from nn_addr _ 1]
      by_cases g2 : R (60 + 5 * e + 4) = 1
      · rw [if_pos (show orN (R (60 + 5 * e + 4)) = 1 by rw [(or_1 hEG).1]; exact g2), h.2.2.2.2.1, a7, zBd_s]
        by_cases g3 : vd R e = true
        · rw [if_neg (show ¬ zb (vd R e = true) = 0 by rw [zb_t g3]; decide)]
          rw [if_neg (fun hh => hh.2.2.1 g3)] at ih2
          exact ih2
        · rw [if_pos (show zb (vd R e = true) = 0 from zb_f g3), h.2.2.2.2.1, a0, zBd_s, hEG.1.1]
          rw [if_pos ⟨gs, g2, g3, g⟩] at ih2
          exact ih2
      · rw [if_neg (show ¬ orN (R (60 + 5 * e + 4)) = 1 by rw [(or_1 hEG).1]; exact g2)]
        rw [if_neg (fun hh => g2 hh.2.1)] at ih2
        exact ih2
    · rw [if_neg (show ¬ orN (R (60 + 5 * e + 2)) = nn c by rw [orN_nn (by omega)]; exact g), if_pos rfl, if_pos rfl]
      rw [decide_eq_false g, if_neg (by decide), if_neg (fun hh => g hh.2.2.2)] at ih2
      rw [show nn (cntN (ansE R c) e) + 0 = nn (cntN (ansE R c) e + 0) from nn_addr _ 0]
      exact ih2
theorem j196_122 {im : zI} {lm : zJ} {R : Nat → Int32} {q : Int32} (hG : GD R) (h : QF im lm R q) (K : Int32 → Int32 → zI → zJ → zR) (c : Nat) (hc : c < 25) : J_196_122 K (nn c) (nn (cntN (ansE R c) (rE R))) (zsl R (rE R) c) (nn (thr R c)) (if zb (bt (R 10) c = true) = 0 then 1 else 0) im lm = K (nn (thr R (c + 1))) (nn (c + 1)) im lm := by
  have h60 := hG.2.1.2
  obtain ⟨a0, a1, a2, a3, a4⟩ := q_cl R hc
  have hv : nn (valC c) = 100 * (nn c / 5 + 1) := by
    rw [show nn c / 5 = nn (c / 5) from div_l c 5 (by omega) (by decide), show nn (c / 5) + 1 = nn (c / 5 + 1) from nn_addr _ 1, show (100 : Int32) * nn (c / 5 + 1) = nn (100 * (c / 5 + 1)) from nn_mull 100 _]
    rfl
  have ht : nn (thr R c) + (if zb (bt (R 10) c = true) = 0 then 1 else 0) = nn (thr R (c + 1)) := by
    show _ = nn (cntN (fun i => !bt (R 10) i) c + (if (!bt (R 10) c) = true then 1 else 0))
    cases hb : bt (R 10) c
    · rw [if_pos (zb_f (by decide)), if_pos (show (!false) = true from rfl)]; exact nn_add _ 1
    · rw [if_neg (show ¬ zb (true = true) = 0 by rw [zb_t rfl]; decide), if_neg (by decide)]; exact nn_addr _ 0
  unfold J_196_122
  rw [h.2.2.2.1, a0, zBd_s, if_pos hv, h.2.2.2.1, a3, zBd_s, if_pos rfl, h.2.2.2.1, a4, zBd_s, if_pos rfl, ht, show nn c + 1 = nn (c + 1) from nn_addr c 1]
  by_cases g : cntN (ansE R c) (rE R) = 0
  · rw [g, if_pos (show nn 0 ≤ 0 from Int32.le_refl _)]
  · have hle := cntN_le (ansE R c) (rE R)
    rw [if_neg (show ¬ nn (cntN (ansE R c) (rE R)) ≤ 0 from nn_ge 0 _ (by omega) (by omega)), h.2.2.2.1, a2, zBd_s]
    obtain ⟨e, he, ha⟩ := cntN_ex (rE R) (by omega : 0 < cntN (ansE R c) (rE R))
    have ha : R (60 + 5 * e + 2) = nn c := of_decide_eq_true ha
    have hb : bt (R 10) c = true := by
      rcases (hG.2.2.1 e he).1.2.1 with ⟨c', h1, h2, _, _, h3, _⟩ | ⟨h1, _⟩ | ⟨h1, _⟩
      · rw [ha] at h2
        rw [nn_inj _ _ (by omega) (by omega)] at h2
        rw [h2]; exact h3
      · rw [ha] at h1; exact absurd h1 (by rw [ti_eq, ti_nn _ (by omega)]; have : (-1 : Int32).toInt = -1 := by decide +kernel
                                           omega)
      · rw [ha] at h1; exact absurd h1 (by rw [ti_eq, ti_nn _ (by omega)]; have : (-1 : Int32).toInt = -1 := by decide +kernel
                                           omega)
    rw [if_neg (show ¬ zb (bt (R 10) c = true) = 0 by rw [zb_t hb]; decide)]
theorem j196_263 {im : zI} {lm : zJ} {R : Nat → Int32} {q : Int32} (h : QF im lm R q) : J_196_263 (R 0) im lm = some (1, im, lm) := by
  have h290 : J_196_290 im lm = some (1, im, lm) := by
    unfold J_196_290; rw [(QF_c h).2.2.2.2.2.2.2.2.2.2, zBd_s, if_pos rfl]
  unfold J_196_263
  rw [h.2.2.2.1, q_cl25, zBd_s, if_pos rfl]
  by_cases g : R 0 = 1
  · rw [if_pos g, h290]
  · have e : qQu R 0 = -10000005 := by unfold qQu; rw [if_pos (Int32.le_refl _), if_neg g]
    rw [if_neg g, h.2.2.1, e, zBd_s, if_pos rfl, h290]
theorem m_196_l {im : zI} {lm : zJ} {R : Nat → Int32} {q : Int32} (hG : GD R) (h : QF im lm R q) : ∀ d k n, k + d = 25 → d < n → F_196_4 n (nn (thr R k)) (nn k) im lm = some (1, im, lm) := by
  intro d
  induction d with
  | zero =>
    intro k n hk hn
    obtain ⟨m, rfl⟩ : ∃ m, n = m + 1 := ⟨n - 1, by omega⟩
    have : k = 25 := by omega
    subst this
    have hc := QF_c h
    unfold F_196_4
    rw [if_pos (show (25 : Int32) ≤ nn 25 from Int32.le_refl _), hc.1, zBd_s, hc.2.2.2.1, zBd_s, hc.2.2.1, zBd_s, if_pos (thr_p R)]
    obtain ⟨ph, hp6, hph⟩ := hG.2.2.2.1
    unfold J_196_213 J_196_227
    by_cases g : R 0 = 1 ∨ R 0 = 2 ∨ R 0 = 3
    · obtain ⟨c, c1, c2, c3, c4⟩ := hG.2.2.2.2.1 g
      obtain ⟨a0, a1, a2, a3, a4⟩ := q_cl R c1
      have e0 : orN (R 2) = nn c := by rw [c2]; exact orN_n c (by omega)
      have e1 : (0 : Int32) ≤ nn c := by rw [show (0 : Int32) = nn 0 from rfl, nn_le _ _ (by omega) (by omega)]; omega
      have e2 : (if R 0 = 0 then 1 else if R 0 ≤ 3 then 0 else 1 : Int32) = 0 := by rcases g with g | g | g <;> rw [g] <;> decide
      rw [e0, e2, if_pos e1, if_pos rfl, if_neg (nn_neg c (by omega)), h.2.2.2.1, a2, zb_t c4, zBd_s, if_pos rfl, h.2.2.2.1, a1, zBd_s]
      unfold J_196_260
      have e3 : zb (bt (R 11) c = true) = if R 0 ≤ 1 then 0 else 1 := by
        rcases g with g | g | g
        · rw [zb_f (fun hh => (c3.mp hh) g), g]; decide
        · rw [zb_t (c3.mpr (by rw [g]; decide)), g]; decide
        · rw [zb_t (c3.mpr (by rw [g]; decide)), g]; decide
      rw [if_pos e3, j196_263 h]
    · have c2 := hG.2.2.2.2.2.1 g
      have e0 : orN (R 2) = -10000005 := by rw [c2]; decide
      have e2 : (if R 0 = 0 then 1 else if R 0 ≤ 3 then 0 else 1 : Int32) = 1 := by
        have : ph = 0 ∨ ph = 1 ∨ ph = 2 ∨ ph = 3 ∨ ph = 4 ∨ ph = 5 ∨ ph = 6 := by omega
        rcases this with e | e | e | e | e | e | e <;> subst e
        · rw [hph]; decide
        · exact absurd (Or.inl hph) g
        · exact absurd (Or.inr (Or.inl hph)) g
        · exact absurd (Or.inr (Or.inr hph)) g
        · rw [hph]; decide
        · rw [hph]; decide
        · rw [hph]; decide
      rw [e0, e2, if_neg (show ¬ (0 : Int32) ≤ -10000005 by decide), if_pos rfl, if_pos (show (-10000005 : Int32) < 0 by decide), j196_263 h]
  | succ d ih =>
    intro k n hk hn
    obtain ⟨m, rfl⟩ : ∃ m, n = m + 1 := ⟨n - 1, by omega⟩
    unfold F_196_4
    rw [if_neg (show ¬ (25 : Int32) ≤ nn k from nn_ge k 25 (by omega) (by omega))]
    refine (f196_19 hG h (F_196_4 m) (nn (thr R k)) k (by omega) (rE R) 0 2000 (by omega) (by have := hG.2.1.2; omega)).trans ?_
    rw [j196_122 hG h _ k (by omega)]
    exact ih (k + 1) m (by omega) (by omega)
theorem m_196_v {im : zI} {lm : zJ} {R : Nat → Int32} {q : Int32} (hG : GD R) (h : QF im lm R q) : m_196 im lm = some (1, im, lm) := m_196_l hG h 25 0 2000 rfl (by omega)
