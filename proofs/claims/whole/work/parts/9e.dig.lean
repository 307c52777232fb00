/-! NUMBERS IN TEXT: how long, and their digits *-/
def ng (n : Nat) : Int32 := -(nn n)
theorem ti_gn (n : Nat) (h : n < 2147483648) : (ng n).toInt = -(n : Int) := by
  unfold ng
  rw [Int32.toInt_neg, ti_nn n h]
  exact Int.bmod_eq_of_le (by omega) (by omega)
theorem ng_le (a b : Nat) (ha : a < 2147483648) (hb : b < 2147483648) : (ng a ≤ ng b) = (b ≤ a) := by
  rw [Int32.le_iff_toInt_le, ti_gn a ha, ti_gn b hb]
  exact propext ⟨fun h => by omega, fun h => by omega⟩
theorem ng_lt (a b : Nat) (ha : a < 2147483648) (hb : b < 2147483648) : (ng a < ng b) = (b < a) := by
  rw [Int32.lt_iff_toInt_lt, ti_gn a ha, ti_gn b hb]
  exact propext ⟨fun h => by omega, fun h => by omega⟩
theorem ng_neg (n : Nat) : -(ng n) = nn n := by unfold ng; exact Int32.neg_neg
theorem ng_ml (a : Nat) : (10 : Int32) * ng a = ng (10 * a) := by
  unfold ng
  rw [Int32.mul_neg, show (10 : Int32) * nn a = nn (10 * a) from nn_mull 10 a]
theorem ng_d (n : Nat) (h : n < 2147483648) : ng n / 100 = ng (n / 100) := by
  apply Int32.toInt_inj.1
  rw [Int32.toInt_div, ti_gn n h, ti_gn _ (by omega), show (100 : Int32).toInt = 100 from by decide +kernel]
  have e : (-(n : Int)).tdiv 100 = -((n / 100 : Nat) : Int) := by
    rw [Int.neg_tdiv, Int.ofNat_tdiv n 100]
    rfl
  rw [e]
  exact Int.bmod_eq_of_le (by omega) (by omega)
theorem ng_r (n : Nat) (h : n < 2147483648) : ng (n / 100) * 100 - ng n = nn (n % 100) := by
  have h1 : ng (n / 100) * 100 = ng (n / 100 * 100) := by
    unfold ng
    rw [Int32.neg_mul, show nn (n / 100) * 100 = nn (n / 100 * 100) from nn_mulr _ 100]
  rw [h1]
  unfold ng
  rw [Int32.sub_eq_add_neg, Int32.neg_neg, Int32.add_comm, ← Int32.sub_eq_add_neg, nn_sub _ _ (by omega) h]
  congr 1; omega
/-- n has d digits -/
def dgt (n d : Nat) : Prop := 1 ≤ d ∧ n < 10 ^ d ∧ (d = 1 ∨ 10 ^ (d - 1) ≤ n)
theorem dgt_ex (n : Nat) (h : n < 10000000) : ∃ d, d ≤ 7 ∧ dgt n d := by
  by_cases g1 : n < 10
  · exact ⟨1, by omega, by omega, g1, Or.inl rfl⟩
  by_cases g2 : n < 100
  · exact ⟨2, by omega, by omega, g2, Or.inr (show 10 ≤ n by omega)⟩
  by_cases g3 : n < 1000
  · exact ⟨3, by omega, by omega, g3, Or.inr (show 100 ≤ n by omega)⟩
  by_cases g4 : n < 10000
  · exact ⟨4, by omega, by omega, g4, Or.inr (show 1000 ≤ n by omega)⟩
  by_cases g5 : n < 100000
  · exact ⟨5, by omega, by omega, g5, Or.inr (show 10000 ≤ n by omega)⟩
  by_cases g6 : n < 1000000
  · exact ⟨6, by omega, by omega, g6, Or.inr (show 100000 ≤ n by omega)⟩
  · exact ⟨7, by omega, by omega, h, Or.inr (show 1000000 ≤ n by omega)⟩
theorem p10_le {a b : Nat} (h : a ≤ b) : 10 ^ a ≤ 10 ^ b := Nat.pow_le_pow_right (by decide) h
theorem p10_s (a : Nat) : 10 ^ (a + 1) = 10 * 10 ^ a := by rw [Nat.pow_succ, Nat.mul_comm]
