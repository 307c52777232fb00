/-! SCRIPTS: the model reads the moves *-/
def val (c : Nat → Nat) (s : Nat) : Nat → Nat
  | 0 => 0
  | i + 1 => 10 * val c s i + (c (s + 1 + i) - 48)
def mvA (c : Nat → Nat) (s : Nat) : Nat := if c s = 98 then val c s (mvL (c s) - 1) / 100 else val c s (mvL (c s) - 1)
def mvZ (c : Nat → Nat) (s : Nat) : Nat := val c s (mvL (c s) - 1) % 100
def ps (c : Nat → Nat) : Nat → Nat
  | 0 => 0
  | m + 1 => ps c m + mvL (c (ps c m))
def TxM (im : zI) (c : Nat → Nat) (L : Nat) : Prop := im 170 16 = nn L ∧ L ≤ 70 ∧ ∀ i, i < L → im 184 i = nn (c i) ∧ c i < 65536
def MvW (im : zI) (c : Nat → Nat) (m : Nat) : Prop := im 170 18 = nn m ∧ ∀ k, k < m → im 185 (3 * k) = nn (c (ps c k)) ∧ im 185 (3 * k + 1) = nn (mvA c (ps c k)) ∧ im 185 (3 * k + 2) = nn (mvZ c (ps c k))
theorem val_lt (c : Nat → Nat) (s i : Nat) (h : ∀ x, s < x → x < s + 1 + i → 48 ≤ c x ∧ c x ≤ 57) : val c s i < 10 ^ i := by
  induction i with
  | zero => show 0 < 1; omega
  | succ i ih =>
    have h1 := ih (fun x h1 h2 => h x h1 (by omega))
    have h2 := h (s + 1 + i) (by omega) (by omega)
    have e : 10 ^ (i + 1) = 10 ^ i * 10 := Nat.pow_succ ..
    show 10 * val c s i + (c (s + 1 + i) - 48) < _
    omega
theorem s139 {im : zI} {c : Nat → Nat} {L : Nat} (h : TxM im c L) (lm : zJ) (p : Nat) (hp : p ≤ L) : m_139 (nn p) im lm = some (if p < L ∧ 48 ≤ c p ∧ c p ≤ 57 then nn (c p - 48) else -1, im, lm) := by
  obtain ⟨h1, h2, h3⟩ := h
  have hle : (nn L ≤ nn p) = (L ≤ p) := nn_le _ _ (by omega) (by omega)
  unfold m_139
  rw [h1]
  simp only [hle]
  by_cases g : p < L
  · have g2 : ¬ L ≤ p := by omega
    have hc := (h3 p g).2
    have l1 : (nn (c p) < 48) = (c p < 48) := by rw [show (48 : Int32) = nn 48 from rfl]; exact nn_lt _ _ (by omega) (by omega)
    have l2 : (57 < nn (c p)) = (57 < c p) := by rw [show (57 : Int32) = nn 57 from rfl]; exact nn_lt _ _ (by omega) (by omega)
    simp (disch := omega) only [g2, if_false, nn_mull, nn_mulr, nn_addl, nn_addr, nn_add, nn_mul, tn_nn, tn_l, inb_nn, inb_l, zCk_t, ite_self, zBd_s, (h3 p g).1, l1, l2, zCk_t]
    by_cases q1 : c p < 48
    · rw [if_pos q1, if_neg (show ¬ (p < L ∧ 48 ≤ c p ∧ c p ≤ 57) by omega), if_pos rfl]
    · by_cases q2 : 57 < c p
      · rw [if_neg q1, if_pos q2, if_neg (show ¬ (p < L ∧ 48 ≤ c p ∧ c p ≤ 57) by omega), if_pos rfl]
      · rw [if_neg q1, if_neg q2, if_pos (show p < L ∧ 48 ≤ c p ∧ c p ≤ 57 by omega), if_neg (show ¬ (1 : Int32) = 0 by decide), show nn (c p) - 48 = nn (c p - 48) from nn_subr (c p) 48 (by show 48 ≤ c p; omega) (by omega)]
  · have g2 : L ≤ p := by omega
    simp only [g2, if_true, zCk_t]
    rw [if_neg (fun hh => g hh.1)]
/-- the greatest digit, as the model finds it -/
theorem s140_g (c : Nat → Nat) (s i : Nat) (hc : c s < 65536) (hd : i < mvL (c s) - 1) (hi : 0 < i → 48 ≤ c (s + 1) ∧ c (s + 1) ≤ 57) (hv : val c s i < 100000) : (if nn (c s) = 112 then if nn i = 0 then (2 : Int32) else if nn (val c s i) = 2 then 4 else 9 else if nn (c s) = 98 then if nn i = 0 then 5 else 9 else 9) = nn (gdD c s (s + 1 + i) - 48) := by
  have hml := mvL_v (c s)
  have e1 : (nn (c s) = 112) = (c s = 112) := nnl (c s) 112 hc (by decide)
  have e2 : (nn (c s) = 98) = (c s = 98) := nnl (c s) 98 hc (by decide)
  have e3 : (nn i = 0) = (i = 0) := nnl i 0 (by omega) (by decide)
  have e4 : (nn (val c s i) = 2) = (val c s i = 2) := nn_inj _ 2 (by omega) (by decide)
  have e5 : (s + 1 + i = s + 1) = (i = 0) := propext ⟨fun h => by omega, fun h => by omega⟩
  simp only [e1, e2, e3, e4]
  unfold gdD
  simp only [e5]
  by_cases g1 : c s = 112
  · have hm : mvL (c s) = 3 := by rw [g1]; rfl
    have hi2 : i = 0 ∨ i = 1 := by omega
    rcases hi2 with g | g
    · subst g; rw [if_pos g1, if_pos rfl, if_pos ⟨g1, rfl⟩]; rfl
    · subst g
      have hb := hi (by omega)
      have hval : val c s 1 = c (s + 1) - 48 := by show 10 * 0 + (c (s + 1 + 0) - 48) = _; rw [show s + 1 + 0 = s + 1 from rfl]; omega
      have e6 : (val c s 1 = 2) = (c (s + 1) = 50) := by rw [hval]; exact propext ⟨fun h => by omega, fun h => by omega⟩
      have g98 : ¬ c s = 98 := by omega
      simp only [e6]
      by_cases g4 : c (s + 1) = 50 <;> simp [g1, g4] <;> rfl
  · by_cases g3 : c s = 98
    · by_cases g2 : i = 0 <;> simp [g1, g2, g3] <;> rfl
    · simp [g1, g3]; rfl
theorem s140_s {im : zI} {c : Nat → Nat} {L : Nat} (h : TxM im c L) (lm : zJ) (K : Int32 → zI → zJ → zR) (s i n : Nat) (x3 : Int32) (hs : s < L) (hd : i < mvL (c s) - 1) (hp : s + 1 + i ≤ L) (hpre : ∀ x, s < x → x < s + 1 + i → 48 ≤ c x ∧ c x ≤ 57) : F_140_105 K (n + 1) (nn (s + 1 + i)) (nn (c s)) x3 (nn (mvL (c s) - 1)) (nn (val c s i)) (nn i) im lm = if s + 1 + i < L ∧ 48 ≤ c (s + 1 + i) ∧ c (s + 1 + i) ≤ gdD c s (s + 1 + i) then F_140_105 K n (nn (s + 1 + (i + 1))) (nn (c s)) x3 (nn (mvL (c s) - 1)) (nn (val c s (i + 1))) (nn (i + 1)) im lm else some (nn (s + 1 + i), im, lm) := by
  have hL := h.2.1
  have hml := mvL_v (c s)
  have hc := (h.2.2 s hs).2
  have hg57 := gd_57 c s (s + 1 + i)
  have hv := val_lt c s i hpre
  have hv2 : 10 ^ i ≤ 10 ^ 4 := Nat.pow_le_pow_right (by decide) (by omega)
  have hv3 : (10 : Nat) ^ 4 = 10000 := rfl
  have hle : ¬ nn (mvL (c s) - 1) ≤ nn i := nn_ge i _ (by omega) (by omega)
  rw [F_140_105.eq_2, if_neg hle, s139 h lm _ hp, zBd_s, s140_g c s i hc hd (fun g => hpre (s + 1) (by omega) (by omega)) (by omega)]
  unfold J_140_166
  by_cases q0 : s + 1 + i < L ∧ 48 ≤ c (s + 1 + i) ∧ c (s + 1 + i) ≤ 57
  · rw [if_pos q0]
    have hneg : ¬ nn (c (s + 1 + i) - 48) < 0 := nn_neg _ (by omega)
    have hlt : (nn (gdD c s (s + 1 + i) - 48) < nn (c (s + 1 + i) - 48)) = (gdD c s (s + 1 + i) - 48 < c (s + 1 + i) - 48) := nn_lt _ _ (by omega) (by omega)
    simp only [hneg, if_false, hlt]
    have hg48 : 50 ≤ gdD c s (s + 1 + i) := by
      unfold gdD
      repeat' (first | omega | split)
    by_cases q : s + 1 + i < L ∧ 48 ≤ c (s + 1 + i) ∧ c (s + 1 + i) ≤ gdD c s (s + 1 + i)
    · rw [if_neg (show ¬ gdD c s (s + 1 + i) - 48 < c (s + 1 + i) - 48 by omega), if_neg (show ¬ (1 : Int32) = 0 by decide), if_pos q]
      rw [nn_s1, nn_s1, show (10 : Int32) * nn (val c s i) = nn (10 * val c s i) from nn_mull 10 _, nn_add]; rfl
    · rw [if_pos (show gdD c s (s + 1 + i) - 48 < c (s + 1 + i) - 48 by omega), if_pos rfl, if_neg q]
  · rw [if_neg q0, if_pos (show (-1 : Int32) < 0 by decide), if_pos rfl, if_neg (by omega)]
theorem s140_d {im : zI} {c : Nat → Nat} {L : Nat} (h : TxM im c L) (lm : zJ) (K : Int32 → zI → zJ → zR) (s : Nat) (x3 : Int32) (hs : s < L) : ∀ d i n, i + d = mvL (c s) - 1 → s + 1 + i ≤ L → d < n → (∀ x, s < x → x < s + 1 + i → 48 ≤ c x ∧ c x ≤ 57) → F_140_105 K n (nn (s + 1 + i)) (nn (c s)) x3 (nn (mvL (c s) - 1)) (nn (val c s i)) (nn i) im lm = match scnS c L s d (s + 1 + i) with | some f => some (nn f, im, lm) | none => J_140_223 K (nn (s + 1 + (mvL (c s) - 1))) x3 (nn (val c s (mvL (c s) - 1))) (x3 + 1) (nn (mvA c s)) im lm := by
  have hL := h.2.1
  have hml := mvL_v (c s)
  have hc := (h.2.2 s hs).2
  intro d
  induction d with
  | zero =>
    intro i n hi hp hn hpre
    obtain ⟨m, rfl⟩ : ∃ m, n = m + 1 := ⟨n - 1, by omega⟩
    have hi2 : i = mvL (c s) - 1 := by omega
    subst hi2
    have hv := val_lt c s _ hpre
    have hv2 : 10 ^ (mvL (c s) - 1) ≤ 10 ^ 4 := Nat.pow_le_pow_right (by decide) (by omega)
    have hv3 : (10 : Nat) ^ 4 = 10000 := rfl
    have e2 : (nn (c s) = 98) = (c s = 98) := nnl (c s) 98 hc (by decide)
    have e : (if nn (c s) = 98 then nn (val c s (mvL (c s) - 1)) / 100 else nn (val c s (mvL (c s) - 1))) = nn (mvA c s) := by
      unfold mvA
      simp only [e2]
      by_cases g : c s = 98
      · rw [if_pos g, if_pos g]; exact div_l _ 100 (by omega) (by decide)
      · rw [if_neg g, if_neg g]
    rw [F_140_105.eq_2, if_pos (Int32.le_refl _), e]; rfl
  | succ d ih =>
    intro i n hi hp hn hpre
    obtain ⟨m, rfl⟩ : ∃ m, n = m + 1 := ⟨n - 1, by omega⟩
    have hsc : scnS c L s (d + 1) (s + 1 + i) = if s + 1 + i < L ∧ 48 ≤ c (s + 1 + i) ∧ c (s + 1 + i) ≤ gdD c s (s + 1 + i) then scnS c L s d (s + 1 + i + 1) else some (s + 1 + i) := rfl
    rw [s140_s h lm K s i m x3 hs (by omega) hp hpre, hsc]
    have hg57 := gd_57 c s (s + 1 + i)
    by_cases q : s + 1 + i < L ∧ 48 ≤ c (s + 1 + i) ∧ c (s + 1 + i) ≤ gdD c s (s + 1 + i)
    · rw [if_pos q, if_pos q]
      refine ih (i + 1) m (by omega) (by omega) (by omega) ?_
      intro x h1 h2
      by_cases gx : x = s + 1 + i
      · subst gx; exact ⟨q.2.1, by omega⟩
      · exact hpre x h1 (by omega)
    · rw [if_neg q, if_neg q]
def rdW (im : zI) (c : Nat → Nat) (m s : Nat) : zI := zeU2 (zeU2 (zeU2 (zeU2 im 185 (3 * m) (nn (c s))) 185 (3 * m + 1) (nn (mvA c s))) 185 (3 * m + 2) (nn (mvZ c s))) 170 18 (nn (m + 1))
theorem TxM_fr {im im' : zI} {c : Nat → Nat} {L : Nat} (h : TxM im c L) (h1 : im' 170 16 = im 170 16) (h2 : im' 184 = im 184) : TxM im' c L := by
  unfold TxM; rw [h1, h2]; exact h
/-- one move read -/
theorem s140_m {im : zI} {c : Nat → Nat} {L : Nat} (h : TxM im c L) (lm : zJ) (m s n : Nat) (hm : m < 70) (hs : s < L) (h18 : im 170 18 = nn m) : F_140_7 (n + 1) (nn s) im lm = match mvB c L s with | some f => some (nn f, zeU2 im 185 (3 * m) (nn (c s)), lm) | none => F_140_7 n (nn (s + mvL (c s))) (rdW im c m s) lm := by
  have hL := h.2.1
  have hml := mvL_v (c s)
  have hc := (h.2.2 s hs).2
  have hT : TxM (zeU2 im 185 (3 * m) (nn (c s))) c L := TxM_fr h (by rw [u2n _ _ _ _ _ (by decide)]) (u2n _ _ _ _ _ (by decide))
  have e1 : (nn (c s) = 112) = (c s = 112) := nnl (c s) 112 hc (by decide)
  have e2 : (nn (c s) = 98) = (c s = 98) := nnl (c s) 98 hc (by decide)
  have e3 : (nn (c s) = 119) = (c s = 119) := nnl (c s) 119 hc (by decide)
  have e4 : (nn (c s) = 43) = (c s = 43) := nnl (c s) 43 hc (by decide)
  have e5 : (nn (c s) = 45) = (c s = 45) := nnl (c s) 45 hc (by decide)
  have e6 : (nn (c s) = 110) = (c s = 110) := nnl (c s) 110 hc (by decide)
  have hdg : (if nn (c s) = 112 then 2 else if nn (c s) = 98 then 3 else if nn (c s) = 119 then 4 else (0 : Int32)) = nn (mvL (c s) - 1) := by
    simp only [e1, e2, e3]
    unfold mvL
    by_cases g1 : c s = 112
    · rw [g1]; rfl
    by_cases g2 : c s = 98
    · rw [g2]; rfl
    by_cases g3 : c s = 119
    · rw [g3]; rfl
    simp only [g1, g2, g3, if_false]
    repeat' (first | rfl | split)
  have hrun : mvL (c s) ≠ 0 → F_140_105 (F_140_7 n) 2000 (nn (s + 1)) (nn (c s)) (nn (3 * m)) (nn (mvL (c s) - 1)) 0 0 (zeU2 im 185 (3 * m) (nn (c s))) lm = match scnS c L s (mvL (c s) - 1) (s + 1) with | some f => some (nn f, zeU2 im 185 (3 * m) (nn (c s)), lm) | none => F_140_7 n (nn (s + mvL (c s))) (rdW im c m s) lm := by
    intro g0
    have := s140_d hT lm (F_140_7 n) s (nn (3 * m)) hs (mvL (c s) - 1) 0 2000 (by omega) (by omega) (by omega) (fun x h1 h2 => by omega)
    rw [show s + 1 + 0 = s + 1 from rfl] at this
    refine Eq.trans this ?_
    cases hq : scnS c L s (mvL (c s) - 1) (s + 1) with
    | some f => rfl
    | none =>
      obtain ⟨q1, q2⟩ := scn_none c L s _ _ (by omega) hq
      have hv := val_lt c s (mvL (c s) - 1) (fun x h1 h2 => ⟨(q2 x (by omega) (by omega)).1, Nat.le_trans (q2 x (by omega) (by omega)).2 (gd_57 c s x)⟩)
      have hv2 : 10 ^ (mvL (c s) - 1) ≤ 10 ^ 4 := Nat.pow_le_pow_right (by decide) (by omega)
      have hv3 : (10 : Nat) ^ 4 = 10000 := rfl
      show J_140_223 (F_140_7 n) (nn (s + 1 + (mvL (c s) - 1))) (nn (3 * m)) (nn (val c s (mvL (c s) - 1))) (nn (3 * m) + 1) (nn (mvA c s)) (zeU2 im 185 (3 * m) (nn (c s))) lm = F_140_7 n (nn (s + mvL (c s))) (rdW im c m s) lm
      unfold J_140_223
      rw [show s + 1 + (mvL (c s) - 1) = s + mvL (c s) by omega, nn_s1, show nn (3 * m) + 2 = nn (3 * m + 2) from nn_addr (3 * m) 2, show zfirem (nn (val c s (mvL (c s) - 1))) 100 = nn (mvZ c s) from rem_l _ 100 (by omega) (by decide)]
      simp (disch := omega) only [nn_mull, nn_mulr, nn_addl, nn_addr, nn_add, nn_mul, tn_nn, tn_l, inb_nn, inb_l, zCk_t, ite_self, zBd_s, zCk_t]
      rw [show zeU2 im 185 (3 * m) (nn (c s)) 170 18 = im 170 18 from by rw [u2n _ _ _ _ _ (by decide)], h18, nn_s1]
      rfl
  rw [F_140_7.eq_2, h.1, if_neg (nn_ge s L hs (by omega)), h18, show (3 : Int32) * nn m = nn (3 * m) from nn_mull 3 m]
  simp (disch := omega) only [nn_mull, nn_mulr, nn_addl, nn_addr, nn_add, nn_mul, tn_nn, tn_l, inb_nn, inb_l, zCk_t, ite_self, zBd_s, zCk_t, (h.2.2 s hs).1]
  rw [hdg]
  unfold J_140_70 mvB
  have ez : (nn (mvL (c s) - 1) = 0) = (mvL (c s) - 1 = 0) := nnl _ 0 (by omega) (by decide)
  simp only [ez, e4, e5, e6]
  by_cases g0 : mvL (c s) = 0
  · have k1 : ¬ c s = 43 := fun h => by rw [h] at g0; exact absurd g0 (by decide)
    have k2 : ¬ c s = 45 := fun h => by rw [h] at g0; exact absurd g0 (by decide)
    have k3 : ¬ c s = 110 := fun h => by rw [h] at g0; exact absurd g0 (by decide)
    have k4 : mvL (c s) - 1 = 0 := by omega
    simp only [k1, k2, k3, k4, g0, if_true, if_false]
    rw [show nn (s + 1) - 1 = nn (s + 1 - 1) from nn_subr (s + 1) 1 (by show 1 ≤ s + 1; omega) (by omega), show s + 1 - 1 = s by omega]
  · rw [if_neg g0, ← hrun g0]
    by_cases g1 : mvL (c s) - 1 = 0
    · rw [if_pos g1]
      by_cases k1 : c s = 43
      · rw [if_pos k1]
      by_cases k2 : c s = 45
      · rw [if_neg k1, if_pos k2]
      by_cases k3 : c s = 110
      · rw [if_neg k1, if_neg k2, if_pos k3]
      · exfalso
        unfold mvL at g0 g1
        simp only [k1, k2, k3, if_false] at g0 g1
        revert g0 g1
        repeat' (first | omega | split)
    · rw [if_neg g1]
theorem ps_lt {c : Nat → Nat} {m k : Nat} (h : k ≤ m) : ps c k ≤ ps c m := by
  induction m with
  | zero => have : k = 0 := by omega
            subst this; exact Nat.le_refl _
  | succ m ih =>
    by_cases g : k = m + 1
    · subst g; exact Nat.le_refl _
    · exact Nat.le_trans (ih (by omega)) (Nat.le_add_right _ _)
theorem s140_l {c : Nat → Nat} {L : Nat} (lm : zJ) : ∀ k m n (im : zI), ps c m ≤ L → L < k + ps c m → m ≤ ps c m → L < n + ps c m → (∀ x, x < m → ps c x < L) → TxM im c L → MvW im c m → ∃ im', F_140_7 n (nn (ps c m)) im lm = some (match flt c L k (ps c m) with | some f => nn f | none => if L = 0 then 0 else -1, im', lm) ∧ (∀ a, a ≠ 170 → a ≠ 185 → im' a = im a) ∧ (∀ j, j ≠ 18 → im' 170 j = im 170 j) ∧ (flt c L k (ps c m) = none → ∃ M, ps c M = L ∧ M ≤ L ∧ (∀ x, x < M → ps c x < L) ∧ MvW im' c M) := by
  intro k
  induction k with
  | zero => intro m n im h1 h2; omega
  | succ k ih =>
    intro m n im h1 h2 h3 h4 h5 hT hW
    have hL := hT.2.1
    obtain ⟨n, rfl⟩ : ∃ x, n = x + 1 := ⟨n - 1, by omega⟩
    have hfl : flt c L (k + 1) (ps c m) = if L ≤ ps c m then none else match mvB c L (ps c m) with | some f => some f | none => flt c L k (ps c m + mvL (c (ps c m))) := rfl
    rw [hfl]
    by_cases g : L ≤ ps c m
    · have gL : ps c m = L := by omega
      have ez : (nn m = 0) = (m = 0) := nnl m 0 (by omega) (by decide)
      have em : (m = 0) = (L = 0) := by
        refine propext ⟨fun h => ?_, fun h => by omega⟩
        subst h; exact gL.symm
      rw [if_pos g, gL]
      refine ⟨im, ?_, fun _ _ _ => rfl, fun _ _ => rfl, fun _ => ⟨m, gL, by omega, h5, hW⟩⟩
      rw [F_140_7.eq_2, hT.1, if_pos (Int32.le_refl _), hW.1]
      simp only [ez, em]
    · rw [if_neg g, s140_m hT lm m (ps c m) n (by omega) (by omega) hW.1]
      cases hB : mvB c L (ps c m) with
      | some f => exact ⟨_, rfl, fun a _ h => u2n _ _ _ _ _ h, fun j _ => by rw [u2n _ _ _ _ _ (by decide)], fun h => by cases h⟩
      | none =>
        obtain ⟨q1, q2, q3⟩ := mvB_none (by omega) hB
        have f1 : ∀ a, a ≠ 170 → a ≠ 185 → rdW im c m (ps c m) a = im a := fun a g1 g2 => by
          unfold rdW; rw [u2n _ _ _ _ _ g1, u2n _ _ _ _ _ g2, u2n _ _ _ _ _ g2, u2n _ _ _ _ _ g2]
        have f2 : ∀ j, j ≠ 18 → rdW im c m (ps c m) 170 j = im 170 j := fun j g1 => by
          unfold rdW; rw [u2_j _ _ _ _ _ _ g1, u2n _ _ _ _ _ (by decide), u2n _ _ _ _ _ (by decide), u2n _ _ _ _ _ (by decide)]
        have f3 : ∀ j, j ≠ 3 * m → j ≠ 3 * m + 1 → j ≠ 3 * m + 2 → rdW im c m (ps c m) 185 j = im 185 j := fun j g1 g2 g3 => by
          unfold rdW; rw [u2n _ _ _ _ _ (by decide), u2_j _ _ _ _ _ _ g3, u2_j _ _ _ _ _ _ g2, u2_j _ _ _ _ _ _ g1]
        have hW' : MvW (rdW im c m (ps c m)) c (m + 1) := by
          refine ⟨u2_s _ _ _ _, fun x hx => ?_⟩
          by_cases gx : x = m
          · subst gx
            refine ⟨?_, ?_, ?_⟩
            · unfold rdW; rw [u2n _ _ _ _ _ (by decide), u2_j _ _ _ _ _ _ (by omega), u2_j _ _ _ _ _ _ (by omega), u2_s]
            · unfold rdW; rw [u2n _ _ _ _ _ (by decide), u2_j _ _ _ _ _ _ (by omega), u2_s]
            · unfold rdW; rw [u2n _ _ _ _ _ (by decide), u2_s]
          · have := hW.2 x (by omega)
            rw [f3 _ (by omega) (by omega) (by omega), f3 _ (by omega) (by omega) (by omega), f3 _ (by omega) (by omega) (by omega)]
            exact this
        have h5' : ∀ x, x < m + 1 → ps c x < L := by
          intro x hx
          by_cases gx : x = m
          · subst gx; omega
          · exact h5 x (by omega)
        obtain ⟨im', a1, a2, a3, a4⟩ := ih (m + 1) n (rdW im c m (ps c m)) q2 (by show L < k + (ps c m + mvL (c (ps c m))); omega) (by show m + 1 ≤ ps c m + mvL (c (ps c m)); omega) (by show L < n + (ps c m + mvL (c (ps c m))); omega) h5' (TxM_fr hT (f2 16 (by decide)) (f1 184 (by decide) (by decide))) hW'
        exact ⟨im', a1, fun a g1 g2 => by rw [a2 a g1 g2, f1 a g1 g2], fun j g1 => by rw [a3 j g1, f2 j g1], a4⟩
theorem s140 {im : zI} {c : Nat → Nat} {L : Nat} (h : TxM im c L) (lm : zJ) : ∃ im', m_140 im lm = some (fltT c L, im', lm) ∧ (∀ a, a ≠ 170 → a ≠ 185 → im' a = im a) ∧ (∀ j, j ≠ 18 → im' 170 j = im 170 j) ∧ (fltT c L = -1 → ∃ M, ps c M = L ∧ M ≤ L ∧ (∀ x, x < M → ps c x < L) ∧ MvW im' c M) := by
  have hL := h.2.1
  obtain ⟨im', a1, a2, a3, a4⟩ := s140_l (c := c) (L := L) lm (L + 1) 0 2000 (zeU2 im 170 18 0) (Nat.zero_le _) (by show L < L + 1 + 0; omega) (Nat.le_refl _) (by show L < 2000 + 0; omega) (fun x hx => by omega) (TxM_fr h (u2_j _ _ _ _ _ _ (by decide)) (u2n _ _ _ _ _ (by decide))) ⟨u2_s _ _ _ _, fun k hk => by omega⟩
  refine ⟨im', ?_, fun a g1 g2 => by rw [a2 a g1 g2, u2n _ _ _ _ _ g1], fun j g1 => by rw [a3 j g1, u2_j _ _ _ _ _ _ g1], ?_⟩
  · refine Eq.trans (b := F_140_7 2000 (nn (ps c 0)) (zeU2 im 170 18 0) lm) rfl ?_
    rw [a1]
    unfold fltT
    by_cases g : L = 0
    · subst g; rfl
    · rw [if_neg g, if_neg g]; rfl
  · intro hf
    refine a4 ?_
    unfold fltT at hf
    by_cases g : L = 0
    · rw [if_pos g] at hf; exact absurd hf (by decide)
    · rw [if_neg g] at hf
      show flt c L (L + 1) 0 = none
      cases hq : flt c L (L + 1) 0 with
      | none => rfl
      | some f =>
        rw [hq] at hf
        have hfb : f ≤ L := flt_le c L _ _ _ (Nat.zero_le _) hq
        exact absurd hf (by intro h2; have h3 : nn f < 0 := by rw [show nn f = -1 from h2]; decide
                            exact nn_neg f (by omega) h3)
