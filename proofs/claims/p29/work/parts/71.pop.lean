/-! BITS of a set, counted: the library's way and by a loop (nx_and, nx_ush out of kit/laws/BITS) -/
theorem nx_and (a b : Nat) : nn a &&& nn b = nn (a &&& b) := by
  apply Int32.toBitVec_inj.1
  show BitVec.ofNat 32 a &&& BitVec.ofNat 32 b = BitVec.ofNat 32 (a &&& b)
  apply BitVec.eq_of_getLsbD_eq
  intro i hi
  simp [hi]
theorem nx_andl (a b : Nat) : nn a &&& (no_index (OfNat.ofNat b) : Int32) = nn (a &&& OfNat.ofNat b) := nx_and a b
theorem nx_cnt : ∀ j : Fin 32, (UInt32.ofNat j.val &&& Int32.toUInt32 31).toNat % 32 = j.val := by decide +kernel
theorem nx_ush {k j : Nat} (hk : k < 4294967296) (hj : j < 32) : zfiushr (nn k) (nn j) = nn (k / 2 ^ j) := by
  have hs : k / 2 ^ j ≤ k := Nat.div_le_self _ _
  have e2 : UInt32.ofNat k >>> (UInt32.ofNat j &&& Int32.toUInt32 31) = UInt32.ofNat (k / 2 ^ j) := by
    apply UInt32.toNat_inj.1
    have h1 : (UInt32.ofNat k).toNat = k := Nat.mod_eq_of_lt (by omega)
    have h2 : (UInt32.ofNat (k / 2 ^ j)).toNat = k / 2 ^ j := Nat.mod_eq_of_lt (by omega)
    rw [UInt32.toNat_shiftRight, nx_cnt ⟨j, hj⟩, h1, h2, Nat.shiftRight_eq_div_pow]
  show (UInt32.ofNat k >>> (UInt32.ofNat j &&& Int32.toUInt32 31)).toInt32 = _
  rw [e2]
  rfl
theorem ush1 {k : Nat} (hk : k < 4294967296) : zfiushr (nn k) 1 = nn (k / 2) := nx_ush (j := 1) hk (by decide)
theorem ush2 {k : Nat} (hk : k < 4294967296) : zfiushr (nn k) 2 = nn (k / 4) := nx_ush (j := 2) hk (by decide)
theorem ush4 {k : Nat} (hk : k < 4294967296) : zfiushr (nn k) 4 = nn (k / 16) := nx_ush (j := 4) hk (by decide)
theorem ush8 {k : Nat} (hk : k < 4294967296) : zfiushr (nn k) 8 = nn (k / 256) := nx_ush (j := 8) hk (by decide)
theorem ush16 {k : Nat} (hk : k < 4294967296) : zfiushr (nn k) 16 = nn (k / 65536) := nx_ush (j := 16) hk (by decide)
theorem and_spl (a1 a0 m1 m0 : Nat) (h0 : a0 < 256) (hm : m0 < 256) : (256 * a1 + a0) &&& (256 * m1 + m0) = 256 * (a1 &&& m1) + (a0 &&& m0) := by
  apply Nat.eq_of_testBit_eq
  intro i
  have h3 : a0 &&& m0 < 256 := Nat.and_lt_two_pow (n := 8) _ hm
  rw [Nat.testBit_and]
  show (Nat.testBit (2 ^ 8 * a1 + a0) i && Nat.testBit (2 ^ 8 * m1 + m0) i) = Nat.testBit (2 ^ 8 * (a1 &&& m1) + (a0 &&& m0)) i
  rw [Nat.testBit_two_pow_mul_add _ h0, Nat.testBit_two_pow_mul_add _ hm, Nat.testBit_two_pow_mul_add _ h3]
  by_cases h : i < 8
  · rw [if_pos h, if_pos h, if_pos h, Nat.testBit_and]
  · rw [if_neg h, if_neg h, if_neg h, Nat.testBit_and]
/-- four bytes -/
def by4 (d c b a : Nat) : Nat := 256 * (256 * (256 * d + c) + b) + a
theorem by4_and (d c b a d' c' b' a' : Nat) (hc : c < 256) (hb : b < 256) (ha : a < 256) (hc' : c' < 256) (hb' : b' < 256) (ha' : a' < 256) : by4 d c b a &&& by4 d' c' b' a' = by4 (d &&& d') (c &&& c') (b &&& b') (a &&& a') := by
  unfold by4
  rw [and_spl _ _ _ _ ha ha', and_spl _ _ _ _ hb hb', and_spl _ _ _ _ hc hc']
theorem k1 : ∀ u, u < 128 → ∀ b, b < 2 → (u + 128 * b) &&& 85 = u &&& 85 := by decide +kernel
theorem k2 : ∀ u, u < 64 → ∀ b, b < 4 → (u + 64 * b) &&& 51 = u &&& 51 := by decide +kernel
def w1 (u : Nat) : Nat := u - ((u / 2) &&& 85)
def w2 (u : Nat) : Nat := (w1 u &&& 51) + ((w1 u / 4) &&& 51)
def w3 (u : Nat) : Nat := (w2 u + w2 u / 16) &&& 15
def pb8 (u : Nat) : Nat := cntN (fun i => u.testBit i) 8
theorem k3 : ∀ u, u < 256 → ((u / 2) &&& 85) ≤ u ∧ w1 u < 256 ∧ w2 u < 69 ∧ (w2 u) % 16 < 5 ∧ w3 u = pb8 u ∧ pb8 u ≤ 8 := by decide +kernel
theorem k4 : ∀ u, u < 73 → ∀ b, b < 5 → (u + 16 * b) &&& 15 = u &&& 15 := by decide +kernel
theorem fin_mod (d c b a : Nat) (hd : d ≤ 8) (hc : c ≤ 8) (hb : b ≤ 8) (ha : a ≤ 8) : (by4 d c b a + by4 d c b a / 256 + (by4 d c b a + by4 d c b a / 256) / 65536) % 64 = d + c + b + a := by
  have h1 : by4 d c b a / 256 = 65536 * d + 256 * c + b := by unfold by4; omega
  rw [h1]
  have h2 : (by4 d c b a + (65536 * d + 256 * c + b)) / 65536 = 256 * d + c + d := by unfold by4; omega
  rw [h2]
  unfold by4
  omega
theorem pop_n (d c b a : Nat) (hd : d < 2) (hc : c < 256) (hb : b < 256) (ha : a < 256) : ∃ x, x = nn (by4 d c b a) ∧ ∀ im lm, m_29 x im lm = some (nn (pb8 d + pb8 c + pb8 b + pb8 a), im, lm) := by
  refine ⟨_, rfl, ?_⟩
  intro im lm
  obtain ⟨d1, d2, d3, d4, d5, d6⟩ := k3 d (by omega)
  obtain ⟨c1, c2, c3, c4, c5, c6⟩ := k3 c hc
  obtain ⟨b1, b2, b3, b4, b5, b6⟩ := k3 b hb
  obtain ⟨a1, a2, a3, a4, a5, a6⟩ := k3 a ha
  have m5 : (1431655765 : Nat) = by4 85 85 85 85 := by decide
  have m3 : (858993459 : Nat) = by4 51 51 51 51 := by decide
  have mf : (252645135 : Nat) = by4 15 15 15 15 := by decide
  have e1 : (by4 d c b a / 2) &&& 1431655765 = by4 (d / 2 &&& 85) (c / 2 &&& 85) (b / 2 &&& 85) (a / 2 &&& 85) := by
    have : by4 d c b a / 2 = by4 (d / 2) (c / 2 + 128 * (d % 2)) (b / 2 + 128 * (c % 2)) (a / 2 + 128 * (b % 2)) := by unfold by4; omega
    rw [this, m5, by4_and _ _ _ _ _ _ _ _ (by omega) (by omega) (by omega) (by omega) (by omega) (by omega), k1 _ (by omega) _ (by omega), k1 _ (by omega) _ (by omega), k1 _ (by omega) _ (by omega)]
  have e2 : by4 d c b a - by4 (d / 2 &&& 85) (c / 2 &&& 85) (b / 2 &&& 85) (a / 2 &&& 85) = by4 (w1 d) (w1 c) (w1 b) (w1 a) := by
    unfold by4 w1; omega
  have e2l : by4 (d / 2 &&& 85) (c / 2 &&& 85) (b / 2 &&& 85) (a / 2 &&& 85) ≤ by4 d c b a := by
    unfold by4; omega
  have e3 : by4 (w1 d) (w1 c) (w1 b) (w1 a) &&& 858993459 = by4 (w1 d &&& 51) (w1 c &&& 51) (w1 b &&& 51) (w1 a &&& 51) := by
    rw [m3, by4_and _ _ _ _ _ _ _ _ c2 b2 a2 (by omega) (by omega) (by omega)]
  have e4 : (by4 (w1 d) (w1 c) (w1 b) (w1 a) / 4) &&& 858993459 = by4 (w1 d / 4 &&& 51) (w1 c / 4 &&& 51) (w1 b / 4 &&& 51) (w1 a / 4 &&& 51) := by
    have : by4 (w1 d) (w1 c) (w1 b) (w1 a) / 4 = by4 (w1 d / 4) (w1 c / 4 + 64 * (w1 d % 4)) (w1 b / 4 + 64 * (w1 c % 4)) (w1 a / 4 + 64 * (w1 b % 4)) := by unfold by4; omega
    rw [this, m3, by4_and _ _ _ _ _ _ _ _ (by omega) (by omega) (by omega) (by omega) (by omega) (by omega), k2 _ (by omega) _ (by omega), k2 _ (by omega) _ (by omega), k2 _ (by omega) _ (by omega)]
  have e5 : by4 (w1 d &&& 51) (w1 c &&& 51) (w1 b &&& 51) (w1 a &&& 51) + by4 (w1 d / 4 &&& 51) (w1 c / 4 &&& 51) (w1 b / 4 &&& 51) (w1 a / 4 &&& 51) = by4 (w2 d) (w2 c) (w2 b) (w2 a) := by
    unfold by4 w2; omega
  have e6 : (by4 (w2 d) (w2 c) (w2 b) (w2 a) + by4 (w2 d) (w2 c) (w2 b) (w2 a) / 16) &&& 252645135 = by4 (pb8 d) (pb8 c) (pb8 b) (pb8 a) := by
    have : by4 (w2 d) (w2 c) (w2 b) (w2 a) + by4 (w2 d) (w2 c) (w2 b) (w2 a) / 16 = by4 (w2 d + w2 d / 16) (w2 c + w2 c / 16 + 16 * (w2 d % 16)) (w2 b + w2 b / 16 + 16 * (w2 c % 16)) (w2 a + w2 a / 16 + 16 * (w2 b % 16)) := by unfold by4; omega
    rw [this, mf, by4_and _ _ _ _ _ _ _ _ (by omega) (by omega) (by omega) (by omega) (by omega) (by omega), k4 _ (by omega) _ d4, k4 _ (by omega) _ c4, k4 _ (by omega) _ b4, ← a5, ← b5, ← c5, ← d5]
    rfl
  have l1 : by4 d c b a < 4294967296 := by unfold by4; omega
  have l2 : by4 (w1 d) (w1 c) (w1 b) (w1 a) < 4294967296 := by unfold by4; omega
  have l3 : by4 (w2 d) (w2 c) (w2 b) (w2 a) < 4294967296 := by unfold by4; omega
  have l4 : by4 (pb8 d) (pb8 c) (pb8 b) (pb8 a) < 4294967296 := by unfold by4; omega
  have l5 : by4 (pb8 d) (pb8 c) (pb8 b) (pb8 a) + by4 (pb8 d) (pb8 c) (pb8 b) (pb8 a) / 256 < 4294967296 := by unfold by4; omega
  have l6 : by4 d c b a < 2147483648 := by unfold by4; omega
  have e7 : (by4 (pb8 d) (pb8 c) (pb8 b) (pb8 a) + by4 (pb8 d) (pb8 c) (pb8 b) (pb8 a) / 256 + (by4 (pb8 d) (pb8 c) (pb8 b) (pb8 a) + by4 (pb8 d) (pb8 c) (pb8 b) (pb8 a) / 256) / 65536) &&& 63 = pb8 d + pb8 c + pb8 b + pb8 a := by
    rw [show (63 : Nat) = 2 ^ 6 - 1 from rfl, Nat.and_two_pow_sub_one_eq_mod]
    exact fin_mod _ _ _ _ d6 c6 b6 a6
  unfold m_29
  simp only [ush1 l1, nx_andl, e1, nn_sub _ _ e2l l6, e2, ush2 l2, e3, e4, nn_add, e5, ush4 l3, e6, ush8 l4, ush16 l5, e7]
theorem bt_nn (a i : Nat) (hi : i < 32) : bt (nn a) i = a.testBit i := by
  unfold bt nn
  show (BitVec.ofNat 32 a).getLsbD i = _
  rw [BitVec.getLsbD_ofNat, decide_eq_true hi, Bool.true_and]
theorem cntN_add (f : Nat → Bool) (n : Nat) : ∀ m, cntN f (n + m) = cntN f n + cntN (fun i => f (n + i)) m := by
  intro m
  induction m with
  | zero => rfl
  | succ m ih => show cntN f (n + m) + (if f (n + m) = true then 1 else 0) = cntN f n + (cntN (fun i => f (n + i)) m + (if f (n + m) = true then 1 else 0)); rw [ih]; omega
theorem by4_bit (d c b a : Nat) (hc : c < 256) (hb : b < 256) (ha : a < 256) (i : Nat) : (by4 d c b a).testBit i = if i < 8 then a.testBit i else if i < 16 then b.testBit (i - 8) else if i < 24 then c.testBit (i - 16) else d.testBit (i - 24) := by
  show Nat.testBit (2 ^ 8 * (2 ^ 8 * (2 ^ 8 * d + c) + b) + a) i = _
  rw [Nat.testBit_two_pow_mul_add _ ha, Nat.testBit_two_pow_mul_add _ hb, Nat.testBit_two_pow_mul_add _ hc]
  by_cases h1 : i < 8
  · rw [if_pos h1, if_pos h1]
  · rw [if_neg h1, if_neg h1]
    by_cases h2 : i < 16
    · rw [if_pos (by omega), if_pos h2]
    · rw [if_neg (by omega), if_neg h2]
      by_cases h3 : i < 24
      · rw [if_pos (by omega), if_pos h3, Nat.sub_sub]
      · rw [if_neg (by omega), if_neg h3, Nat.sub_sub, Nat.sub_sub]
theorem k5 : ∀ d, d < 2 → pb8 d = cntN (fun i => d.testBit i) 1 := by decide +kernel
/-- the bits of a set of clues -/
def pop (x : Int32) : Nat := cntN (fun i => bt x i) 25
theorem s29 (x : Int32) (h : ∀ i, 25 ≤ i → bt x i = false) (im : zI) (lm : zJ) : m_29 x im lm = some (nn (pop x), im, lm) := by
  have hx : x = nn x.toBitVec.toNat := by
    apply Int32.toBitVec_inj.1
    show _ = BitVec.ofNat 32 _
    simp
  have hlt : x.toBitVec.toNat < 33554432 := by
    apply Nat.lt_pow_two_of_testBit (n := 25)
    intro i hi
    rw [← BitVec.getLsbD]
    exact h i hi
  generalize hA : x.toBitVec.toNat = A at hx hlt
  obtain ⟨y, hy, hs⟩ := pop_n (A / 16777216) (A / 65536 % 256) (A / 256 % 256) (A % 256) (by omega) (by omega) (by omega) (by omega)
  have hAe : A = by4 (A / 16777216) (A / 65536 % 256) (A / 256 % 256) (A % 256) := by unfold by4; omega
  rw [← hAe, ← hx] at hy
  subst hy
  rw [hs]
  congr 3
  unfold pop
  have hb : ∀ i, i < 32 → bt y i = if i < 8 then (A % 256).testBit i else if i < 16 then (A / 256 % 256).testBit (i - 8) else if i < 24 then (A / 65536 % 256).testBit (i - 16) else (A / 16777216).testBit (i - 24) := by
    intro i hi
    rw [hx, bt_nn _ _ hi]
    conv => lhs; rw [hAe]
    exact by4_bit _ _ _ _ (by omega) (by omega) (by omega) i
  rw [show (25 : Nat) = 8 + (8 + (8 + 1)) from rfl, cntN_add, cntN_add, cntN_add, k5 _ (by omega)]
  have q1 : cntN (fun i => bt y i) 8 = pb8 (A % 256) := cntN_c 8 (fun k hk => by rw [hb k (by omega), if_pos hk])
  have q2 : cntN (fun i => bt y (8 + i)) 8 = pb8 (A / 256 % 256) := cntN_c 8 (fun k hk => by rw [hb _ (by omega), if_neg (by omega), if_pos (by omega), Nat.add_sub_cancel_left])
  have q3 : cntN (fun i => bt y (8 + (8 + i))) 8 = pb8 (A / 65536 % 256) := cntN_c 8 (fun k hk => by rw [hb _ (by omega), if_neg (by omega), if_neg (by omega), if_pos (by omega)]; congr 1; omega)
  have q4 : cntN (fun i => bt y (8 + (8 + (8 + i)))) 1 = cntN (fun i => (A / 16777216).testBit i) 1 := cntN_c 1 (fun k hk => by rw [hb _ (by omega), if_neg (by omega), if_neg (by omega), if_neg (by omega)]; congr 1; omega)
  rw [q1, q2, q3, q4]
  omega
theorem pop_le (x : Int32) : pop x ≤ 25 := cntN_le _ 25
