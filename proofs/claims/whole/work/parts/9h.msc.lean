/-! messageAt: numbers in text, the text as a whole -/
def dcn (n : Nat) : Nat := if n < 10 then 1 else if n < 100 then 2 else if n < 1000 then 3 else if n < 10000 then 4 else if n < 100000 then 5 else if n < 1000000 then 6 else 7
theorem dcn_ok (n : Nat) (h : n < 10000000) : dcn n ≤ 7 ∧ dgt n (dcn n) := by
  unfold dcn
  by_cases g1 : n < 10
  · rw [if_pos g1]; exact ⟨by omega, by omega, g1, Or.inl rfl⟩
  rw [if_neg g1]
  by_cases g2 : n < 100
  · rw [if_pos g2]; exact ⟨by omega, by omega, g2, Or.inr (show 10 ≤ n by omega)⟩
  rw [if_neg g2]
  by_cases g3 : n < 1000
  · rw [if_pos g3]; exact ⟨by omega, by omega, g3, Or.inr (show 100 ≤ n by omega)⟩
  rw [if_neg g3]
  by_cases g4 : n < 10000
  · rw [if_pos g4]; exact ⟨by omega, by omega, g4, Or.inr (show 1000 ≤ n by omega)⟩
  rw [if_neg g4]
  by_cases g5 : n < 100000
  · rw [if_pos g5]; exact ⟨by omega, by omega, g5, Or.inr (show 10000 ≤ n by omega)⟩
  rw [if_neg g5]
  by_cases g6 : n < 1000000
  · rw [if_pos g6]; exact ⟨by omega, by omega, g6, Or.inr (show 100000 ≤ n by omega)⟩
  · rw [if_neg g6]; exact ⟨by omega, by omega, h, Or.inr (show 1000000 ≤ n by omega)⟩
def numL (x : Int32) : List Int32 := if x < 0 then [45] ++ dgl (-x).toNatClampNeg (dcn (-x).toNatClampNeg) else dgl x.toNatClampNeg (dcn x.toNatClampNeg)
def small (x : Int32) : Prop := -10000000 < x.toInt ∧ x.toInt < 10000000
theorem small_c {x : Int32} (h : small x) : (∃ n, n < 10000000 ∧ x = nn n ∧ numL x = dgl n (dcn n)) ∨ ∃ n, 0 < n ∧ n < 10000000 ∧ x = ng n ∧ numL x = [45] ++ dgl n (dcn n) := by
  obtain ⟨h1, h2⟩ := h
  by_cases g : x < 0
  · right
    have gi : x.toInt < 0 := by have := Int32.lt_iff_toInt_lt.mp g; exact this
    have hx : x = ng (-x.toInt).toNat := by
      apply Int32.toInt_inj.1
      rw [ti_gn _ (by omega)]; omega
    refine ⟨(-x.toInt).toNat, by omega, by omega, hx, ?_⟩
    unfold numL
    rw [if_pos g]
    have e : -x = nn (-x.toInt).toNat := by
      have := ng_neg (-x.toInt).toNat
      rw [← hx] at this; exact this
    rw [e, tn_nn _ (by omega)]
  · left
    obtain ⟨e1, e2⟩ := nn_of x (Int32.not_lt.mp g)
    refine ⟨x.toNatClampNeg, ?_, e1, ?_⟩
    · have : x.toInt = (x.toNatClampNeg : Int) := by
        have := ti_nn x.toNatClampNeg e2
        rw [← e1] at this; exact this
      omega
    · unfold numL; rw [if_neg g]
theorem numL_len {x : Int32} (h : small x) : (numL x).length ≤ 8 := by
  rcases small_c h with ⟨n, h1, _, h3⟩ | ⟨n, _, h1, _, h3⟩
  · rw [h3, dgl_l]; have := (dcn_ok n h1).1; omega
  · rw [h3, List.length_append, dgl_l]; have := (dcn_ok n h1).1; show 1 + _ ≤ 8; omega
theorem numL_1 {n : Nat} (h : n < 10) : (numL (nn n)).length = 1 := by
  unfold numL
  rw [if_neg (nn_neg n (by omega)), tn_nn n (by omega), dgl_l]
  unfold dcn; rw [if_pos h]
theorem small_nn {n : Nat} (h : n < 10000000) : small (nn n) := by
  unfold small; rw [ti_nn n (by omega)]; omega
theorem tm_num {im : zI} (lm : zJ) {l : List Int32} (h : TM im l) {x : Int32} (hx : small x) (hl : l.length + (numL x).length ≤ 90) : ∃ im', m_210 x im lm = some (0, im', lm) ∧ TM im' (l ++ numL x) ∧ FW im im' := by
  rcases small_c hx with ⟨n, h1, h2, h3⟩ | ⟨n, h0, h1, h2, h3⟩
  · rw [h3, dgl_l] at hl
    rw [h3, h2]
    exact tm_210_p lm h (dcn_ok n h1).2 (dcn_ok n h1).1 hl
  · rw [h3, List.length_append, dgl_l] at hl
    rw [h3, h2]
    exact tm_210_n lm h (dcn_ok n h1).2 (dcn_ok n h1).1 h0 (by have hl : l.length + (1 + dcn n) ≤ 90 := hl; omega)
/-- what stood at the start and nobody writes -/
def OLD (im : zI) : Prop := im 4 1 = 0 ∧ im 6 1 = 0 ∧ im 2 1 = 0 ∧ (∀ j, j < 6 → ([112, 104, 97, 115, 101, 32] : List Int32)[j]? = some (im 5 j)) ∧ (∀ j, j < 3 → ([59, 32, 112] : List Int32)[j]? = some (im 7 j)) ∧ ∀ j, j < 1 → ([32] : List Int32)[j]? = some (im 3 j)
theorem OLD_fr {im im' : zI} (h : ∀ a, a < 16 → im' a = im a) (hO : OLD im) : OLD im' := by
  obtain ⟨h2, h3, h1, h4, h5, h6⟩ := hO
  refine ⟨?_, ?_, ?_, ?_, ?_, ?_⟩
  · rw [h 4 (by decide)]; exact h2
  · rw [h 6 (by decide)]; exact h3
  · rw [h 2 (by decide)]; exact h1
  · rw [h 5 (by decide)]; exact h4
  · rw [h 7 (by decide)]; exact h5
  · rw [h 3 (by decide)]; exact h6
/-- the text behind k players -/
def txt (R : Nat → Int32) : Nat → List Int32
  | 0 => [112, 104, 97, 115, 101, 32] ++ numL (R 0)
  | k + 1 => txt R k ++ [59, 32, 112] ++ numL (pat R k (-1)) ++ [32] ++ numL (sc R (pat R k (-1)).toNatClampNeg)
theorem GD_r0 {R : Nat → Int32} (hG : GD R) : ∃ n, n < 10 ∧ R 0 = nn n := by
  obtain ⟨n, h1, h2⟩ := hG.2.2.2.1
  exact ⟨n, by omega, h2⟩
theorem GD_small {R : Nat → Int32} (hG : GD R) (p : Nat) : small (sc R p) := by
  have := GD_sc hG p; unfold small; omega
theorem pat_e {R : Nat → Int32} {k : Nat} (h : k < rN R) (no : Int32) : ∃ p, p < rN R ∧ pat R k no = nn p ∧ pat R k (-1) = nn p := by
  obtain ⟨p, h1, h2, h3⟩ := pat_some no h
  obtain ⟨p', g1, g2, g3⟩ := pat_some (R := R) (-1) h
  rw [h3] at g3
  have : p = p' := by cases g3; rfl
  subst this
  exact ⟨p, h1, h2, g2⟩
theorem txt_len {R : Nat → Int32} (hG : GD R) : ∀ k, k ≤ rN R → (txt R k).length ≤ 7 + 13 * k := by
  intro k
  induction k with
  | zero =>
    intro _
    obtain ⟨n, h1, h2⟩ := GD_r0 hG
    show ([112, 104, 97, 115, 101, 32] ++ numL (R 0)).length ≤ 7
    rw [List.length_append, h2, numL_1 h1]; decide
  | succ k ih =>
    intro hk
    have h6 := hG.1.2
    obtain ⟨p, h1, _, h2⟩ := pat_e (show k < rN R by omega) (-1)
    have h3 := numL_len (GD_small hG (pat R k (-1)).toNatClampNeg)
    have h4 := ih (by omega)
    show (txt R k ++ [59, 32, 112] ++ numL (pat R k (-1)) ++ [32] ++ numL (sc R (pat R k (-1)).toNatClampNeg)).length ≤ _
    rw [List.length_append, List.length_append, List.length_append, List.length_append, h2, numL_1 (by omega)]
    rw [h2] at h3
    show (txt R k).length + 3 + 1 + 1 + _ ≤ _
    omega
