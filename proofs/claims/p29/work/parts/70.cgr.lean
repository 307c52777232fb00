/-! ROWS that agree *-/
def agK (R R' : Nat → Int32) (k : Nat) : Prop := ∀ j, 60 ≤ j → j < 60 + 5 * k → R' j = R j
theorem agK_m {R R' : Nat → Int32} {k i : Nat} (h : agK R R' k) (hi : i ≤ k) : agK R R' i := fun j h1 h2 => h j h1 (by omega)
theorem vd_c {R R' : Nat → Int32} {k i : Nat} (h : agK R R' k) (hi : i < k) : vd R' i = vd R i := by
  have e : ∀ j, j ≤ i → ∀ a, a < 5 → R' (60 + 5 * j + a) = R (60 + 5 * j + a) := fun j hj a ha => h _ (by omega) (by omega)
  have h2 : vd R' i = true ↔ vd R i = true := by
    rw [vd_iff, vd_iff, e i (Nat.le_refl _) 1 (by decide), e i (Nat.le_refl _) 2 (by decide)]
    refine and_congr_right fun _ => ?_
    constructor
    · rintro ⟨j, hj, h3, h4, h5⟩
      rw [e j (by omega) 1 (by decide)] at h3
      rw [e j (by omega) 2 (by decide)] at h4
      rw [e j (by omega) 4 (by decide)] at h5
      exact ⟨j, hj, h3, h4, h5⟩
    · rintro ⟨j, hj, h3, h4, h5⟩
      rw [← e j (by omega) 1 (by decide)] at h3
      rw [← e j (by omega) 2 (by decide)] at h4
      rw [← e j (by omega) 4 (by decide)] at h5
      exact ⟨j, hj, h3, h4, h5⟩
  exact Bool.eq_iff_iff.mpr h2
theorem eP_c {R R' : Nat → Int32} {k i : Nat} (h : agK R R' k) (hi : i < k) : eP R' i = eP R i := by
  unfold eP; rw [h _ (by omega) (by omega)]
theorem amS_c {R R' : Nat → Int32} {k i : Nat} (h : agK R R' k) (hi : i < k) (x : Int32) : amS R' i x = amS R i x := by
  unfold amS; rw [vd_c h hi, h (60 + 5 * i + 1) (by omega) (by omega), h (60 + 5 * i + 3) (by omega) (by omega)]
theorem zsc_c {R R' : Nat → Int32} : ∀ {k : Nat}, agK R R' k → zsc R' k = zsc R k := by
  intro k
  induction k with
  | zero => intro _; rfl
  | succ k ih =>
    intro h
    have ih := ih (agK_m h (by omega))
    show zeU1 (zsc R' k) (eP R' k) (zsc R' k (eP R' k) + dlt (R' (60 + 5 * k + 4)) (amS R' k (zsc R' k (eP R' k)))) = zeU1 (zsc R k) (eP R k) (zsc R k (eP R k) + dlt (R (60 + 5 * k + 4)) (amS R k (zsc R k (eP R k))))
    rw [ih, eP_c h (by omega), amS_c h (by omega), h (60 + 5 * k + 4) (by omega) (by omega)]
theorem zam_c {R R' : Nat → Int32} {k i : Nat} (h : agK R R' k) (hi : i < k) : zam R' i = zam R i := by
  unfold zam; rw [zsc_c (agK_m h (by omega) : agK R R' i), eP_c h hi, amS_c h hi]
theorem zco_c {R R' : Nat → Int32} : ∀ {k : Nat}, agK R R' k → zco R' k = zco R k := by
  intro k
  induction k with
  | zero => intro _; rfl
  | succ k ih =>
    intro h
    have ih := ih (agK_m h (by omega))
    show zeU1 (zco R' k) (eP R' k) (zco R' k (eP R' k) + (if R' (60 + 5 * k + 1) = 4 then zam R' k else 0)) = zeU1 (zco R k) (eP R k) (zco R k (eP R k) + (if R (60 + 5 * k + 1) = 4 then zam R k else 0))
    rw [ih, eP_c h (by omega), zam_c h (by omega), h (60 + 5 * k + 1) (by omega) (by omega)]
theorem zrt_c {R R' : Nat → Int32} : ∀ {k : Nat}, agK R R' k → zrt R' k = zrt R k := by
  intro k
  induction k with
  | zero => intro _; rfl
  | succ k ih =>
    intro h
    have ih := ih (agK_m h (by omega))
    unfold zrt
    rw [ih, eP_c h (by omega), vd_c h (by omega), h (60 + 5 * k + 1) (by omega) (by omega), h (60 + 5 * k + 4) (by omega) (by omega)]
theorem zwr_c {R R' : Nat → Int32} : ∀ {k : Nat}, agK R R' k → zwr R' k = zwr R k := by
  intro k
  induction k with
  | zero => intro _; rfl
  | succ k ih =>
    intro h
    have ih := ih (agK_m h (by omega))
    unfold zwr
    rw [ih, eP_c h (by omega), vd_c h (by omega), h (60 + 5 * k + 1) (by omega) (by omega), h (60 + 5 * k + 4) (by omega) (by omega)]
theorem zct_c {R R' : Nat → Int32} {c : Int32} : ∀ {k : Nat}, agK R R' k → zct R' c k = zct R c k := by
  intro k
  induction k with
  | zero => intro _; rfl
  | succ k ih =>
    intro h
    have ih := ih (agK_m h (by omega))
    unfold zct
    rw [ih, eP_c h (by omega), vd_c h (by omega), h (60 + 5 * k + 1) (by omega) (by omega), h (60 + 5 * k + 4) (by omega) (by omega)]
theorem zsl_c {R R' : Nat → Int32} : ∀ {k : Nat}, agK R R' k → zsl R' k = zsl R k := by
  intro k
  induction k with
  | zero => intro _; rfl
  | succ k ih =>
    intro h
    have ih := ih (agK_m h (by omega))
    unfold zsl
    rw [ih, eP_c h (by omega), vd_c h (by omega), h (60 + 5 * k + 1) (by omega) (by omega), h (60 + 5 * k + 4) (by omega) (by omega), h (60 + 5 * k + 2) (by omega) (by omega)]
theorem RpV_c {im : zI} {R R' : Nat → Int32} {k : Nat} (h : agK R R' k) (hv : RpV im R k) : RpV im R' k := by
  obtain ⟨h1, h2, h3, h4⟩ := hv
  refine ⟨?_, ?_, ?_, ?_⟩
  · rw [zct_c h]; exact h1
  · rw [zsc_c h, zrt_c h, zwr_c h, zco_c h]; exact h2
  · rw [zsl_c h]; exact h3
  · intro i hi
    rw [zam_c h hi, zsc_c (agK_m h (by omega) : agK R R' (i + 1)), eP_c h hi, vd_c h hi]
    exact h4 i hi
theorem RpV_im {im im' : zI} {R : Nat → Int32} {k : Nat} (h : ∀ a, 32 ≤ a → a ≤ 40 → im' a = im a) (hv : RpV im R k) : RpV im' R k := by
  obtain ⟨h2, h3, h4, h5⟩ := hv
  refine ⟨?_, ?_, ?_, ?_⟩
  · rw [h 32 (by decide) (by decide)]; exact h2
  · rw [h 33 (by decide) (by decide), h 34 (by decide) (by decide), h 35 (by decide) (by decide), h 36 (by decide) (by decide)]; exact h3
  · rw [h 37 (by decide) (by decide)]; exact h4
  · rw [h 38 (by decide) (by decide), h 39 (by decide) (by decide), h 40 (by decide) (by decide)]; exact h5
theorem LgR_im {im im' : zI} {b : Nat} {R R' : Nat → Int32} {E : Nat} (h : ∀ i, 1 ≤ i → i ≤ 5 → im' (b + i) = im (b + i)) (hR : agK R R' E) (hl : LgR im b R E) : LgR im' b R' E := by
  intro k hk
  obtain ⟨l1, l2, l3, l4, l5⟩ := hl k hk
  rw [h 1 (by decide) (by decide), h 2 (by decide) (by decide), h 3 (by decide) (by decide), h 4 (by decide) (by decide), h 5 (by decide) (by decide), hR (60 + 5 * k) (by omega) (by omega), hR (60 + 5 * k + 1) (by omega) (by omega), hR (60 + 5 * k + 2) (by omega) (by omega), hR (60 + 5 * k + 3) (by omega) (by omega), hR (60 + 5 * k + 4) (by omega) (by omega)]
  exact ⟨l1, l2, l3, l4, l5⟩
theorem EG_c {R R' : Nat → Int32} {k i : Nat} (h : agK R R' k) (hi : i < k) (h10 : R' 10 = R 10) (h11 : R' 11 = R 11) (hg : EG R i) : EG R' i := by
  unfold EG
  rw [eP_c h hi, h10, h11, h (60 + 5 * i) (by omega) (by omega), h (60 + 5 * i + 1) (by omega) (by omega), h (60 + 5 * i + 2) (by omega) (by omega), h (60 + 5 * i + 3) (by omega) (by omega), h (60 + 5 * i + 4) (by omega) (by omega)]
  exact hg
theorem told_c {R R' : Nat → Int32} {p : Nat} (hp : p < 6) (h : ∀ j, 30 ≤ j → j < 54 → R' j = R j) (t : Nat) (ht : t < 100) : told R' p t = told R p t := by
  unfold told; rw [h _ (by omega) (by omega)]
theorem zIt_c {α : Type} (f g : Nat → α → α) : ∀ d k a, (∀ i x, k ≤ i → i < k + d → f i x = g i x) → zIt f d k a = zIt g d k a := by
  intro d
  induction d with
  | zero => intro k a _; rfl
  | succ d ih =>
    intro k a h
    show zIt f d (k + 1) (f k a) = zIt g d (k + 1) (g k a)
    rw [h k a (Nat.le_refl _) (by omega)]
    exact ih _ _ (fun i x h1 h2 => h i x (by omega) (by omega))
theorem fst_c (f g : Nat → Bool) : ∀ d t, (∀ i, t ≤ i → i < t + d → f i = g i) → fstF f d t = fstF g d t := by
  intro d
  induction d with
  | zero => intro t _; rfl
  | succ d ih =>
    intro t h
    unfold fstF
    rw [h t (Nat.le_refl _) (by omega), ih _ (fun i h1 h2 => h i (by omega) (by omega))]
theorem eol_ge (f : Nat → Bool) (lk : Nat) : ∀ d k a, a ≤ zIt (eolS f lk) d k a := by
  intro d
  induction d with
  | zero => intro k a; exact Nat.le_refl _
  | succ d ih =>
    intro k a
    refine Nat.le_trans ?_ (ih (k + 1) (eolS f lk k a))
    unfold eolS
    by_cases h1 : f k = true
    · rw [if_pos h1]
      by_cases h2 : a < k + lk
      · rw [if_pos h2]; omega
      · rw [if_neg h2]; exact Nat.le_refl _
    · rw [if_neg h1]; exact Nat.le_refl _
theorem cntF_c (f g : Nat → Bool) (rd lk : Nat) (hr : rd ≤ 100) (h : ∀ i, i < 100 → f i = g i) : cntF f rd lk = cntF g rd lk := by
  unfold cntF eolF
  have e : zIt (eolS f lk) rd 0 rd = zIt (eolS g lk) rd 0 rd := zIt_c _ _ _ _ _ (fun i x h1 h2 => by unfold eolS; rw [h i (by omega)])
  rw [e]
  exact fst_c _ _ _ _ (fun i h1 h2 => h i (by omega))
theorem cnt_c {R R' : Nat → Int32} {p : Nat} (hp : p < 6) (h3 : R' 3 = R 3) (h4 : R' 4 = R 4) (hr : (R 3).toNatClampNeg ≤ 30) (h : ∀ j, 30 ≤ j → j < 54 → R' j = R j) : cnt R' p = cnt R p := by
  unfold cnt
  rw [h3, h4]
  exact cntF_c _ _ _ _ (by omega) (fun i hi => told_c hp h i hi)
/-! bounds of scores -/
theorem amS_b {R : Nat → Int32} {k : Nat} (hg : EG R k) (x : Int32) : -100000 ≤ (amS R k x).toInt ∧ (amS R k x).toInt ≤ 100000 := by
  obtain ⟨_, hs, h1, h2⟩ := hg
  have e1 : (100000 : Int32).toInt = 100000 := by decide +kernel
  have e2 : (-100000 : Int32).toInt = -100000 := by decide +kernel
  have e0 : (0 : Int32).toInt = 0 := by decide +kernel
  have e5 : (500 : Int32).toInt = 500 := by decide +kernel
  rw [Int32.le_iff_toInt_le] at h1 h2
  unfold amS lim
  by_cases hv : vd R k = true
  · rw [if_pos hv]; omega
  · rw [if_neg hv]
    by_cases s2 : R (60 + 5 * k + 1) = 2
    · simp only [if_pos s2]
      by_cases g : x ≤ 500
      · rw [if_pos g]
        by_cases g2 : (500 : Int32) ≤ R (60 + 5 * k + 3)
        · rw [if_pos g2]; omega
        · rw [if_neg g2]; omega
      · rw [if_neg g]
        rw [Int32.le_iff_toInt_le] at g
        by_cases g2 : x ≤ R (60 + 5 * k + 3)
        · rw [if_pos g2]; rw [Int32.le_iff_toInt_le] at g2; omega
        · rw [if_neg g2]; omega
    · simp only [if_neg s2]
      by_cases s3 : R (60 + 5 * k + 1) = 3
      · simp only [if_pos s3]
        by_cases g : x ≤ 0
        · rw [if_pos g]
          by_cases g2 : (0 : Int32) ≤ R (60 + 5 * k + 3)
          · rw [if_pos g2]; omega
          · rw [if_neg g2]; omega
        · rw [if_neg g]
          rw [Int32.le_iff_toInt_le] at g
          by_cases g2 : x ≤ R (60 + 5 * k + 3)
          · rw [if_pos g2]; rw [Int32.le_iff_toInt_le] at g2; omega
          · rw [if_neg g2]; omega
      · simp only [if_neg s3]
        rw [if_pos (Int32.le_refl _)]; omega
theorem ti_add (a b : Int32) (h1 : -2147483648 ≤ a.toInt + b.toInt) (h2 : a.toInt + b.toInt < 2147483648) : (a + b).toInt = a.toInt + b.toInt := by
  rw [Int32.toInt_add]
  exact Int.bmod_eq_of_le (by omega) (by omega)
theorem ti_ng (a : Int32) (h : -2147483648 < a.toInt) : (-a).toInt = -a.toInt := by
  rw [Int32.toInt_neg]
  have := Int32.toInt_lt a
  exact Int.bmod_eq_of_le (by omega) (by omega)
theorem ti_sub (a b : Int32) (h1 : -2147483648 ≤ a.toInt - b.toInt) (h2 : a.toInt - b.toInt < 2147483648) : (a - b).toInt = a.toInt - b.toInt := by
  rw [Int32.toInt_sub]
  exact Int.bmod_eq_of_le (by omega) (by omega)
theorem zsc_b {R : Nat → Int32} {E : Nat} (hE : E ≤ 60) (hG : ∀ k, k < E → EG R k) : ∀ k, k ≤ E → ∀ q, -(100000 * (k : Int)) ≤ (zsc R k q).toInt ∧ (zsc R k q).toInt ≤ 100000 * (k : Int) := by
  intro k
  induction k with
  | zero => intro _ q; have e0 : (0 : Int32).toInt = 0 := by decide +kernel
            show _ ≤ (0 : Int32).toInt ∧ (0 : Int32).toInt ≤ _
            rw [e0]; omega
  | succ k ih =>
    intro hk q
    have ih := ih (by omega)
    show _ ≤ (zeU1 (zsc R k) (eP R k) (zsc R k (eP R k) + dlt (R (60 + 5 * k + 4)) (amS R k (zsc R k (eP R k)))) q).toInt ∧ (zeU1 (zsc R k) (eP R k) (zsc R k (eP R k) + dlt (R (60 + 5 * k + 4)) (amS R k (zsc R k (eP R k)))) q).toInt ≤ _
    rw [u1e]
    by_cases g : q = eP R k
    · rw [if_pos g]
      have hb := amS_b (hG k (by omega)) (zsc R k (eP R k))
      have hi := ih (eP R k)
      generalize amS R k (zsc R k (eP R k)) = a at hb
      generalize zsc R k (eP R k) = s at hi
      have hd : -100000 ≤ (dlt (R (60 + 5 * k + 4)) a).toInt ∧ (dlt (R (60 + 5 * k + 4)) a).toInt ≤ 100000 := by
        unfold dlt
        by_cases g2 : R (60 + 5 * k + 4) = 0
        · rw [if_pos g2, ti_ng _ (by omega)]; omega
        · rw [if_neg g2]; exact hb
      rw [ti_add _ _ (by omega) (by omega)]
      omega
    · rw [if_neg g]
      have hi := ih q
      omega
theorem GD_sc {R : Nat → Int32} (h : GD R) (q : Nat) : -6000000 ≤ (sc R q).toInt ∧ (sc R q).toInt ≤ 6000000 := by
  have := zsc_b h.2.1.2 (fun k hk => (h.2.2.1 k hk).1) (rE R) (Nat.le_refl _) q
  have h60 := h.2.1.2
  unfold sc
  omega
/-- who has no entry has no points -/
theorem zsc_0 {R : Nat → Int32} {E N : Nat} (hG : ∀ k, k < E → eP R k < N) : ∀ k, k ≤ E → ∀ q, N ≤ q → zsc R k q = 0 := by
  intro k
  induction k with
  | zero => intro _ q _; rfl
  | succ k ih =>
    intro hk q hq
    have := hG k (by omega)
    show zeU1 (zsc R k) (eP R k) _ q = 0
    rw [u1_n _ _ _ _ (by omega)]
    exact ih (by omega) q hq
