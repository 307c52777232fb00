/-! NUMBERS: small naturals as ints -/
def nn (k : Nat) : Int32 := Int32.ofNat k
theorem ti_eq (a b : Int32) : (a = b) = (a.toInt = b.toInt) := propext (Int32.toInt_inj (x := a) (y := b)).symm
theorem ti_nn (k : Nat) (h : k < 2147483648) : (nn k).toInt = (k : Int) := Int32.toInt_ofNat_of_lt (n := k) (by omega)
theorem ti_l (k : Nat) (h : OfNat.ofNat k < 2147483648) : (no_index (OfNat.ofNat k) : Int32).toInt = ((OfNat.ofNat k : Nat) : Int) := ti_nn k h
theorem ti_neg (k : Nat) (h : OfNat.ofNat k < 2147483648) : (-(no_index (OfNat.ofNat k)) : Int32).toInt = -((OfNat.ofNat k : Nat) : Int) := by
  rw [Int32.toInt_neg, ti_l k h]
  have h2 : k < 2147483648 := h
  show Int.bmod (-(k : Int)) _ = -(k : Int)
  exact Int.bmod_eq_of_le (by omega) (by omega)
theorem nn_l (k : Nat) : (no_index (OfNat.ofNat k) : Int32) = nn (OfNat.ofNat k) := rfl
theorem nn_add (a b : Nat) : nn a + nn b = nn (a + b) := (Int32.ofNat_add a b).symm
theorem nn_mul (a b : Nat) : nn a * nn b = nn (a * b) := (Int32.ofNat_mul a b).symm
theorem nn_addl (a b : Nat) : (no_index (OfNat.ofNat a) : Int32) + nn b = nn (OfNat.ofNat a + b) := nn_add a b
theorem nn_addr (a b : Nat) : nn a + (no_index (OfNat.ofNat b) : Int32) = nn (a + OfNat.ofNat b) := nn_add a b
theorem nn_mull (a b : Nat) : (no_index (OfNat.ofNat a) : Int32) * nn b = nn (OfNat.ofNat a * b) := nn_mul a b
theorem nn_mulr (a b : Nat) : nn a * (no_index (OfNat.ofNat b) : Int32) = nn (a * OfNat.ofNat b) := nn_mul a b
theorem tn_nn (k : Nat) (h : k < 2147483648) : Int32.toNatClampNeg (nn k) = k := by
  show (nn k).toInt.toNat = k
  rw [ti_nn k h]
  rfl
theorem tn_l (k : Nat) (h : OfNat.ofNat k < 2147483648) : Int32.toNatClampNeg (no_index (OfNat.ofNat k)) = OfNat.ofNat k := tn_nn k h
theorem nn_inj (a b : Nat) (ha : a < 2147483648) (hb : b < 2147483648) : (nn a = nn b) = (a = b) := by
  apply propext
  rw [ti_eq, ti_nn a ha, ti_nn b hb]
  omega
theorem nn_lt (a b : Nat) (ha : a < 2147483648) (hb : b < 2147483648) : (nn a < nn b) = (a < b) := by
  apply propext
  rw [Int32.lt_iff_toInt_lt, ti_nn a ha, ti_nn b hb]
  omega
theorem nn_le (a b : Nat) (ha : a < 2147483648) (hb : b < 2147483648) : (nn a ≤ nn b) = (a ≤ b) := by
  apply propext
  rw [Int32.le_iff_toInt_le, ti_nn a ha, ti_nn b hb]
  omega
theorem nn_sub (a b : Nat) (h : b ≤ a) (ha : a < 2147483648) : nn a - nn b = nn (a - b) := by
  have : nn a = nn (a - b) + nn b := by rw [nn_add, Nat.sub_add_cancel h]
  rw [this, Int32.sub_eq_add_neg, Int32.add_assoc, Int32.add_right_neg]
  exact Int32.add_zero _
theorem nn_subr (a b : Nat) (h : b ≤ a) (ha : a < 2147483648) : nn a - (no_index (OfNat.ofNat b) : Int32) = nn (a - OfNat.ofNat b) := nn_sub a b h ha
theorem inb_nn (k n : Nat) (h : k < n) (hn : k < 2147483648) : zeInb (nn k) n = true := by
  unfold zeInb
  rw [tn_nn k hn]
  have h0 : ¬ (nn k < 0) := by rw [Int32.lt_iff_toInt_lt, ti_nn k hn]; show ¬ ((k : Int) < 0); omega
  rw [decide_eq_false h0]
  simp only [Nat.blt, Bool.not_false, Bool.true_and]
  exact Nat.ble_eq_true_of_le h
theorem inb_l (k n : Nat) (h : OfNat.ofNat k < n) (hn : OfNat.ofNat k < 2147483648) : zeInb (no_index (OfNat.ofNat k)) n = true := inb_nn k n h hn
/-- an int that isn't below 0 is one of those -/
theorem nn_of (x : Int32) (h : (0 : Int32) ≤ x) : x = nn x.toNatClampNeg ∧ x.toNatClampNeg < 2147483648 := by
  have h1 : (0 : Int) ≤ x.toInt := (Int32.le_iff_toInt_le.mp h)
  have h2 := Int32.toInt_lt x
  have h3 : x.toNatClampNeg = x.toInt.toNat := rfl
  have h4 : x.toNatClampNeg < 2147483648 := by rw [h3]; omega
  refine ⟨?_, h4⟩
  rw [ti_eq, ti_nn _ h4, h3]
  omega
theorem nn_of_le {x : Int32} {m : Nat} (h : (0 : Int32) ≤ x) (h2 : x ≤ nn m) (hm : m < 2147483648) : ∃ k, k ≤ m ∧ x = nn k := by
  obtain ⟨h3, h4⟩ := nn_of x h
  refine ⟨x.toNatClampNeg, ?_, h3⟩
  rw [h3] at h2
  rwa [nn_le _ _ h4 hm] at h2
theorem nn_of_lt {x : Int32} {m : Nat} (h : (0 : Int32) ≤ x) (h2 : x < nn m) (hm : m < 2147483648) : ∃ k, k < m ∧ x = nn k := by
  obtain ⟨h3, h4⟩ := nn_of x h
  refine ⟨x.toNatClampNeg, ?_, h3⟩
  rw [h3] at h2
  rwa [nn_lt _ _ h4 hm] at h2
theorem tdiv_nn (a b : Nat) (ha : a < 2147483648) (hb : b < 2147483648) : nn a / nn b = nn (a / b) := by
  rw [ti_eq, Int32.toInt_div, ti_nn a ha, ti_nn b hb, ti_nn _ (Nat.lt_of_le_of_lt (Nat.div_le_self a b) ha)]
  have h1 : ((a : Int).tdiv (b : Int)) = ((a / b : Nat) : Int) := Int.ofNat_tdiv a b
  rw [h1]
  have h2 := Nat.div_le_self a b
  generalize a / b = q at h2
  exact Int.bmod_eq_of_le (by omega) (by omega)
theorem div_l (a b : Nat) (ha : a < 2147483648) (hb : b < 2147483648) : nn a / (no_index (OfNat.ofNat b) : Int32) = nn (a / OfNat.ofNat b) := tdiv_nn a b ha hb
theorem rem_l (a b : Nat) (ha : a < 2147483648) (hb : b < 2147483648) : zfirem (nn a) (no_index (OfNat.ofNat b) : Int32) = nn (a % OfNat.ofNat b) := by
  show nn a - nn a / nn b * nn b = nn (a % b)
  rw [tdiv_nn a b ha hb, nn_mul, nn_sub _ _ (Nat.div_mul_le_self a b) ha]
  have h1 := Nat.div_add_mod a b
  have h2 : a - a / b * b = a % b := by
    rw [Nat.mul_comm]
    generalize b * (a / b) = q at h1
    omega
  rw [h2]
/-! truth as an int -/
def zb (p : Prop) [Decidable p] : Int32 := if p then 1 else 0
theorem zb_t {p : Prop} [Decidable p] (h : p) : zb p = 1 := if_pos h
theorem zb_f {p : Prop} [Decidable p] (h : ¬ p) : zb p = 0 := if_neg h
theorem zb_0 (p : Prop) [Decidable p] : (zb p = 0) = ¬ p := by
  by_cases h : p
  · rw [zb_t h]; exact propext ⟨fun h1 => absurd h1 (by decide), fun h1 => absurd h h1⟩
  · rw [zb_f h]; exact propext ⟨fun _ => h, fun _ => rfl⟩
theorem zb_1 (p : Prop) [Decidable p] : (zb p = 1) = p := by
  by_cases h : p
  · rw [zb_t h]; exact propext ⟨fun _ => h, fun _ => rfl⟩
  · rw [zb_f h]; exact propext ⟨fun h1 => absurd h1 (by decide), fun h1 => absurd h1 h⟩
theorem zb_nok (p : Prop) [Decidable p] : zeNok FieldType.boolean (zb p) = true := by
  by_cases h : p
  · rw [zb_t h]; decide +kernel
  · rw [zb_f h]; decide +kernel
theorem zb_nar (p : Prop) [Decidable p] : vp_nar FieldType.boolean (zb p) = zb p := by
  by_cases h : p
  · rw [zb_t h]; decide +kernel
  · rw [zb_f h]; decide +kernel
/-! places that are written -/
theorem u2_s {α : Type} (f : Nat → Nat → α) (a j : Nat) (x : α) : zeU2 f a j x a j = x := by
  unfold zeU2
  rw [if_pos rfl, if_pos rfl]
theorem u2_a {α : Type} (f : Nat → Nat → α) (a j : Nat) (x : α) (a' j' : Nat) (h : a' ≠ a) : zeU2 f a j x a' j' = f a' j' := by
  unfold zeU2
  rw [if_neg h]
theorem u2_j {α : Type} (f : Nat → Nat → α) (a j : Nat) (x : α) (a' j' : Nat) (h : j' ≠ j) : zeU2 f a j x a' j' = f a' j' := by
  unfold zeU2
  by_cases h1 : a' = a
  · rw [if_pos h1, if_neg h, h1]
  · rw [if_neg h1]
theorem u2_e {α : Type} (f : Nat → Nat → α) (a j : Nat) (x : α) (a' j' : Nat) : zeU2 f a j x a' j' = if a' = a ∧ j' = j then x else f a' j' := by
  unfold zeU2
  by_cases h1 : a' = a
  · by_cases h2 : j' = j
    · rw [if_pos h1, if_pos h2, if_pos ⟨h1, h2⟩]
    · rw [if_pos h1, if_neg h2, if_neg (fun h => h2 h.2), h1]
  · rw [if_neg h1, if_neg (fun h => h1 h.1)]
theorem cpy_e {α : Type} (f : Nat → Nat → α) (a0 sp a dp n a' j' : Nat) : zeCpy f a0 sp a dp n a' j' = if a' = a ∧ dp ≤ j' ∧ j' < dp + n then f a0 (sp + (j' - dp)) else f a' j' := by
  unfold zeCpy
  by_cases h1 : a' = a
  · by_cases h2 : dp ≤ j' ∧ j' < dp + n
    · rw [if_pos h1, if_pos h2, if_pos ⟨h1, h2⟩]
    · rw [if_pos h1, if_neg h2, if_neg (fun h => h2 h.2), h1]
  · rw [if_neg h1, if_neg (fun h => h1 h.1)]
/-! a loop: step f from place k on, d times -/
def zIt {α : Type} (f : Nat → α → α) : Nat → Nat → α → α
  | 0, _, a => a
  | d + 1, k, a => zIt f d (k + 1) (f k a)
theorem z_loop {α : Type} {i h n : Nat} (loc : Nat → α → zeLo) (mem : Nat → α → zeM) (f : Nat → α → α) (P : Nat → α → Prop) (step : ∀ k a, k < n → P k a → zeRun i h (loc k a) [] (mem k a) = zeRun i h (loc (k + 1) (f k a)) [] (mem (k + 1) (f k a)) ∧ P (k + 1) (f k a)) : ∀ d k a, k + d = n → P k a → zeRun i h (loc k a) [] (mem k a) = zeRun i h (loc n (zIt f d k a)) [] (mem n (zIt f d k a)) ∧ P n (zIt f d k a) := by
  intro d
  induction d with
  | zero => intro k a hk hp; have : k = n := by omega
            subst this; exact ⟨rfl, hp⟩
  | succ d ih =>
    intro k a hk hp
    obtain ⟨h1, h2⟩ := step k a (by omega) hp
    obtain ⟨h3, h4⟩ := ih (k + 1) (f k a) (by omega) h2
    exact ⟨h1.trans h3, h4⟩
/-- the last of a loop's steps stands outside -/
theorem zIt_last {α : Type} (f : Nat → α → α) : ∀ d k a, zIt f (d + 1) k a = f (k + d) (zIt f d k a) := by
  intro d
  induction d with
  | zero => intro k a; rfl
  | succ d ih =>
    intro k a
    have := ih (k + 1) (f k a)
    show zIt f (d + 1) (k + 1) (f k a) = f (k + (d + 1)) (zIt f d (k + 1) (f k a))
    rw [this]
    congr 1
    omega
