/-! BASICS: rows, bits, checks -/
theorem u2r {α : Type} (f : Nat → Nat → α) (a j : Nat) (x : α) : zeU2 f a j x a = zeU1 (f a) j x := by
  funext j'
  unfold zeU2 zeU1
  rw [if_pos rfl]
theorem u2n {α : Type} (f : Nat → Nat → α) (a j : Nat) (x : α) (b : Nat) (h : b ≠ a) : zeU2 f a j x b = f b := by
  funext j'
  unfold zeU2
  rw [if_neg h]
theorem u1e {α : Type} (f : Nat → α) (a : Nat) (x : α) (b : Nat) : zeU1 f a x b = if b = a then x else f b := rfl
theorem u1_s {α : Type} (f : Nat → α) (a : Nat) (x : α) : zeU1 f a x a = x := if_pos rfl
theorem u1_n {α : Type} (f : Nat → α) (a : Nat) (x : α) (b : Nat) (h : b ≠ a) : zeU1 f a x b = f b := if_neg h
theorem if_ap {α β : Type} (c : Prop) [Decidable c] (f g : α → β) (x : α) : (if c then f else g) x = if c then f x else g x := by
  by_cases h : c
  · rw [if_pos h, if_pos h]
  · rw [if_neg h, if_neg h]
theorem if10 (c : Prop) [Decidable c] : ((if c then (1 : Int32) else 0) = 0) = ¬ c := by
  by_cases h : c
  · rw [if_pos h]; exact propext ⟨fun h1 => absurd h1 (by decide), fun h1 => absurd h h1⟩
  · rw [if_neg h]; exact propext ⟨fun _ => h, fun _ => rfl⟩
theorem if01 (c : Prop) [Decidable c] : ((if c then (0 : Int32) else 1) = 0) = c := by
  by_cases h : c
  · rw [if_pos h]; exact propext ⟨fun _ => h, fun _ => rfl⟩
  · rw [if_neg h]; exact propext ⟨fun h1 => absurd h1 (by decide), fun h1 => absurd h1 h⟩
theorem nar_b (c : Prop) [Decidable c] : vp_nar FieldType.boolean (if c then (1 : Int32) else 0) = if c then 1 else 0 := zb_nar c
theorem nar_0 : vp_nar FieldType.boolean (0 : Int32) = 0 := by decide +kernel
theorem nar_1 : vp_nar FieldType.boolean (1 : Int32) = 1 := by decide +kernel
/-! bits (out of kit/laws/BITS) -/
def bt (x : Int32) (i : Nat) : Bool := x.toBitVec.getLsbD i
theorem b_ext {x y : Int32} (h : ∀ i, i < 32 → bt x i = bt y i) : x = y := Int32.toBitVec_inj.mp (BitVec.eq_of_getLsbD_eq (fun i hi => h i hi))
theorem b_or (x y : Int32) (i : Nat) : bt (x ||| y) i = (bt x i || bt y i) := by unfold bt; rw [Int32.toBitVec_or, BitVec.getLsbD_or]
theorem b_and (x y : Int32) (i : Nat) : bt (x &&& y) i = (bt x i && bt y i) := by unfold bt; rw [Int32.toBitVec_and, BitVec.getLsbD_and]
theorem b_xor (x y : Int32) (i : Nat) : bt (x ^^^ y) i = (bt x i ^^ bt y i) := by unfold bt; rw [Int32.toBitVec_xor, BitVec.getLsbD_xor]
theorem b_big {x : Int32} {i : Nat} (h : 32 ≤ i) : bt x i = false := BitVec.getLsbD_of_ge _ _ h
theorem b_0 (i : Nat) : bt 0 i = false := BitVec.getLsbD_zero
theorem b_1 (i : Nat) : bt 1 i = decide (i = 0) := by
  rcases Nat.lt_or_ge i 32 with h | h
  · exact (by decide +kernel : ∀ i, i < 32 → bt 1 i = decide (i = 0)) i h
  · rw [b_big h, decide_eq_false (by omega)]
theorem s_l : ∀ n, n < 32 → ((nn n &&& 31).toBitVec.smod 32).toNat = n := by decide +kernel
theorem b_shl (n : Nat) (hn : n < 32) (x : Int32) {i : Nat} (hi : i < 32) : bt (x <<< (nn n &&& 31)) i = (decide (n ≤ i) && bt x (i - n)) := by
  unfold bt
  rw [Int32.toBitVec_shiftLeft]
  show (x.toBitVec <<< ((nn n &&& 31).toBitVec.smod 32).toNat).getLsbD i = _
  rw [s_l n hn, BitVec.getLsbD_shiftLeft]
  rcases Nat.lt_or_ge i n with h | h
  · simp [h, Nat.not_le.mpr h]
  · simp [hi, h, Nat.not_lt.mpr h]
theorem b_sshr (n : Nat) (hn : n < 32) (x : Int32) {i : Nat} (hi : i < 32) : bt (x >>> (nn n &&& 31)) i = if n + i < 32 then bt x (n + i) else bt x 31 := by
  unfold bt
  rw [Int32.toBitVec_shiftRight]
  show (x.toBitVec.sshiftRight ((nn n &&& 31).toBitVec.smod 32).toNat).getLsbD i = _
  rw [s_l n hn, BitVec.getLsbD_sshiftRight, BitVec.msb_eq_getLsbD_last]
  simp [hi]
/-- one bit, asked -/
theorem b_get (x : Int32) (n : Nat) (hn : n < 32) : ((x >>> (nn n &&& 31)) &&& 1) = zb (bt x n = true) := by
  apply b_ext
  intro i hi
  rw [b_and, b_sshr n hn x hi, b_1]
  by_cases h : i = 0
  · subst h
    rw [if_pos (by omega), Nat.add_zero]
    cases bt x n
    · rw [zb_f (by decide), b_0]; rfl
    · rw [zb_t rfl, b_1]; rfl
  · rw [decide_eq_false h, Bool.and_false]
    cases bt x n
    · rw [zb_f (by decide), b_0]
    · rw [zb_t rfl, b_1, decide_eq_false h]
theorem b_sh1 (n : Nat) (hn : n < 32) (i : Nat) : bt (1 <<< (nn n &&& 31)) i = decide (i = n) := by
  rcases Nat.lt_or_ge i 32 with h | h
  · rw [b_shl n hn 1 h, b_1]
    by_cases h1 : i = n
    · subst h1; simp
    · rw [decide_eq_false h1]
      by_cases h2 : n ≤ i
      · rw [decide_eq_false (by omega : ¬ i - n = 0), Bool.and_false]
      · rw [decide_eq_false h2, Bool.false_and]
  · rw [b_big h, decide_eq_false (by omega)]
theorem b_set (x : Int32) (n : Nat) (hn : n < 32) (i : Nat) : bt (x ||| (1 <<< (nn n &&& 31))) i = (bt x i || decide (i = n)) := by rw [b_or, b_sh1 n hn]
theorem b_flip (x : Int32) (n : Nat) (hn : n < 32) (i : Nat) : bt (x ^^^ (1 <<< (nn n &&& 31))) i = (bt x i ^^ decide (i = n)) := by rw [b_xor, b_sh1 n hn]
/-! checks -/
theorem zCk_e {b : Bool} (h : b = true) (x : zR) : zCk b x = x := by rw [h]; rfl
theorem if_tt (c : Prop) [Decidable c] : (if c then true else true) = true := ite_self true
theorem z_inb {x : Int32} {k n : Nat} (h : x = nn k) (h1 : k < n) (h2 : n < 2147483648) : zeInb x n = true := by rw [h]; exact inb_nn k n h1 (by omega)
