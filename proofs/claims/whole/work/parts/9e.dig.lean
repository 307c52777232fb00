/-! NUMBERS IN TEXT: how long, and their digits *-/
def ng (n : Nat) : Int32 := -(nn n)
theorem ti_gn (n : Nat) (h : n < 2147483648) : (ng n).toInt = -(n : Int) := by
  unfold ng
  rw [Int32.toInt_neg, ti_nn n h]
  exact Int.bmod_eq_of_le (by omega) (by omega)
theorem ng_le (a b : Nat) (ha : a < 2147483648) (hb : b < 2147483648) : (ng a ≤ ng b) = (b ≤ a) := by
  rw [Int32.le_iff_toInt_le, ti_gn a ha, ti_gn b hb]
  exact propext ⟨fun h => by omega, fun h => by omega⟩
theorem ng_lt (a b : Nat) (ha : a < 2147483648) (hb : b < 2147483648) : (ng a < ng b) = (b < a) := by
  rw [Int32.lt_iff_toInt_lt, ti_gn a ha, ti_gn b hb]
  exact propext ⟨fun h => by omega, fun h => by omega⟩
theorem ng_neg (n : Nat) : -(ng n) = nn n := by unfold ng; exact Int32.neg_neg
theorem ng_ml (a : Nat) : (10 : Int32) * ng a = ng (10 * a) := by
  unfold ng
  rw [Int32.mul_neg, show (10 : Int32) * nn a = nn (10 * a) from nn_mull 10 a]
theorem ng_d (n : Nat) (h : n < 2147483648) : ng n / 100 = ng (n / 100) := by
  apply Int32.toInt_inj.1
  rw [Int32.toInt_div, ti_gn n h, ti_gn _ (by omega), show (100 : Int32).toInt = 100 from by decide +kernel]
  have e : (-(n : Int)).tdiv 100 = -((n / 100 : Nat) : Int) := by
    rw [Int.neg_tdiv, Int.ofNat_tdiv n 100]
    rfl
  rw [e]
  exact Int.bmod_eq_of_le (by omega) (by omega)
theorem ng_r (n : Nat) (h : n < 2147483648) : ng (n / 100) * 100 - ng n = nn (n % 100) := by
  have h1 : ng (n / 100) * 100 = ng (n / 100 * 100) := by
    unfold ng
    rw [Int32.neg_mul, show nn (n / 100) * 100 = nn (n / 100 * 100) from nn_mulr _ 100]
  rw [h1]
  unfold ng
  rw [Int32.sub_eq_add_neg, Int32.neg_neg, Int32.add_comm, ← Int32.sub_eq_add_neg, nn_sub _ _ (by omega) h]
  congr 1; omega
/-- n has d digits -/
def dgt (n d : Nat) : Prop := 1 ≤ d ∧ n < 10 ^ d ∧ (d = 1 ∨ 10 ^ (d - 1) ≤ n)
theorem dgt_ex (n : Nat) (h : n < 10000000) : ∃ d, d ≤ 7 ∧ dgt n d := by
  by_cases g1 : n < 10
  · exact ⟨1, by omega, by omega, g1, Or.inl rfl⟩
  by_cases g2 : n < 100
  · exact ⟨2, by omega, by omega, g2, Or.inr (show 10 ≤ n by omega)⟩
  by_cases g3 : n < 1000
  · exact ⟨3, by omega, by omega, g3, Or.inr (show 100 ≤ n by omega)⟩
  by_cases g4 : n < 10000
  · exact ⟨4, by omega, by omega, g4, Or.inr (show 1000 ≤ n by omega)⟩
  by_cases g5 : n < 100000
  · exact ⟨5, by omega, by omega, g5, Or.inr (show 10000 ≤ n by omega)⟩
  by_cases g6 : n < 1000000
  · exact ⟨6, by omega, by omega, g6, Or.inr (show 100000 ≤ n by omega)⟩
  · exact ⟨7, by omega, by omega, h, Or.inr (show 1000000 ≤ n by omega)⟩
theorem p10_le {a b : Nat} (h : a ≤ b) : 10 ^ a ≤ 10 ^ b := Nat.pow_le_pow_right (by decide) h
theorem p10_s (a : Nat) : 10 ^ (a + 1) = 10 * 10 ^ a := by rw [Nat.pow_succ, Nat.mul_comm]
theorem jb194_l {B : zeB} {im : zI} {lm : zJ} {n d : Nat} (hn : dgt n d) (hd : d ≤ 7) (l1 : Int32) : ∀ e i, i + e = d → 1 ≤ i → zeRun 194 16 [some (.int (ng n)), some (.int l1), some (.int (ng (10 ^ i))), some (.int (nn i))] [] (zk B im lm) = some (some (.int (nn d + l1)), zk B im lm) := by
  obtain ⟨h1, h2, h3⟩ := hn
  have hp := p10_le hd
  have hp7 : (10 : Nat) ^ 7 = 10000000 := rfl
  intro e
  induction e with
  | zero =>
    intro i hi h1
    have : i = d := by omega
    subst this
    rw [b_194_16, if_neg (show ¬ (10 : Int32) ≤ nn i from nn_ge i 10 (by omega) (by omega)), b_194_22, if_neg (by rw [ng_le _ _ (by omega) (by omega)]; omega), b_194_27]
  | succ e ih =>
    intro i hi h1
    have hpi := p10_le (show i ≤ d - 1 by omega)
    have hpd := p10_le (show d - 1 ≤ 7 by omega)
    rw [b_194_16, if_neg (show ¬ (10 : Int32) ≤ nn i from nn_ge i 10 (by omega) (by omega)), b_194_22, if_pos (by rw [ng_le _ _ (by omega) (by omega)]; omega), b_194_31, ng_ml, ← p10_s, nn_s1]
    exact ih (i + 1) (by omega) (by omega)
theorem jb194_p {B : zeB} {im : zI} {lm : zJ} {n d : Nat} (hn : dgt n d) (hd : d ≤ 7) : zeRun 194 0 [some (.int (nn n)), none, none, none] [] (zk B im lm) = some (some (.int (nn d)), zk B im lm) := by
  have h := hn.2.1
  have hp := p10_le hd
  have hp7 : (10 : Nat) ^ 7 = 10000000 := rfl
  have h1 := jb194_l (B := B) (im := im) (lm := lm) hn hd 0 (d - 1) 1 (by have := hn.1; omega) (by omega)
  rw [b_194_0, if_neg (nn_neg n (by omega)), b_194_6]
  refine Eq.trans h1 ?_
  rw [show nn d + 0 = nn d from nn_addr d 0]
theorem jb194_n {B : zeB} {im : zI} {lm : zJ} {n d : Nat} (hn : dgt n d) (hd : d ≤ 7) (h0 : 0 < n) : zeRun 194 0 [some (.int (ng n)), none, none, none] [] (zk B im lm) = some (some (.int (nn (d + 1))), zk B im lm) := by
  have h := hn.2.1
  have hp := p10_le hd
  have hp7 : (10 : Nat) ^ 7 = 10000000 := rfl
  have h1 := jb194_l (B := B) (im := im) (lm := lm) hn hd 1 (d - 1) 1 (by have := hn.1; omega) (by omega)
  have hneg : ng n < 0 := by rw [Int32.lt_iff_toInt_lt, ti_gn n (by omega)]; show -(n : Int) < 0; omega
  rw [b_194_0, if_pos hneg, b_194_11]
  refine Eq.trans h1 ?_
  rw [nn_s1]
/-! getChars -/
def TBL (im : zI) : Prop := ∀ r, r < 100 → im 3 r = nn (48 + r % 10) ∧ im 2 r = nn (48 + r / 10)
theorem TBL_fr {im im' : zI} (h : ∀ a, a = 2 ∨ a = 3 → im' a = im a) (hT : TBL im) : TBL im' := fun r hr => by rw [h 3 (Or.inr rfl), h 2 (Or.inl rfl)]; exact hT r hr
theorem nar_k (k : Nat) (hk : k < 128) : vp_nar FieldType.byte (nn k) = nn k := by
  have e : ∀ k : Fin 128, vp_nar FieldType.byte (Int32.ofNat k.1) = Int32.ofNat k.1 := by decide +kernel
  exact e ⟨k, hk⟩
theorem nn_m1 (e : Nat) (h : 0 < e) (he : e < 2147483648) : nn e + -1 = nn (e - 1) := by
  rw [← Int32.sub_eq_add_neg]; exact nn_subr e 1 (by show 1 ≤ e; omega) he
theorem jb195_l {B : zeB} {lm : zJ} (hk : zkK B B.buf = 42) (hcap : zkL B B.buf ≤ 1000) (hbuf : B.buf = 169 ∨ 187 ≤ B.buf) (l6 : Int32) (o1 : Option Value) : ∀ t d n e im o3 o4, d ≤ t → d ≤ 7 → dgt n d → d ≤ e → e ≤ zkL B B.buf → TBL im → ∃ im2 o0 o3' o4', zeRun 195 22 [some (.int (ng n)), o1, some (.ref B.buf), o3, o4, some (.int (nn e)), some (.int l6)] [] (zk B im lm) = zeRun 195 104 [o0, o1, some (.ref B.buf), o3', o4', some (.int (nn (e - d))), some (.int l6)] [] (zk B im2 lm) ∧ (∀ a, a ≠ B.buf → im2 a = im a) ∧ ∀ p, im2 B.buf p = if e - d ≤ p ∧ p < e then nn (48 + n / 10 ^ (e - 1 - p) % 10) else im B.buf p := by
  intro t
  induction t with
  | zero => intro d n e im o3 o4 h1 _ h2; have := h2.1; omega
  | succ t ih =>
    intro d n e im o3 o4 ht h7 hn he hec hT
    obtain ⟨n1, n2, n3⟩ := id hn
    have hp := p10_le h7
    have hp7 : (10 : Nat) ^ 7 = 10000000 := rfl
    have h100 : ((-100 : Int32) < ng n) = (n < 100) := by rw [show (-100 : Int32) = ng 100 from by decide +kernel]; exact ng_lt _ _ (by omega) (by omega)
    have inE : ∀ x, x < e → zeInb (nn x) (zkL B B.buf) = true := fun x hx => inb_nn _ _ (by omega) (by omega)
    by_cases g : n < 100
    · have h9 : ((-9 : Int32) ≤ ng n) = (n ≤ 9) := by rw [show (-9 : Int32) = ng 9 from by decide +kernel]; exact ng_le _ _ (by omega) (by omega)
      have hd : (n ≤ 9 ∧ d = 1) ∨ (10 ≤ n ∧ d = 2) := by
        by_cases q : n ≤ 9
        · refine Or.inl ⟨q, ?_⟩
          rcases n3 with h | h
          · exact h
          · by_cases q1 : d = 1
            · exact q1
            · have := p10_le (show 1 ≤ d - 1 by omega)
              have h10 : (10 : Nat) ^ 1 = 10 := rfl
              omega
        · refine Or.inr ⟨by omega, ?_⟩
          rcases n3 with h | h
          · subst h; have h10 : (10 : Nat) ^ 1 = 10 := rfl
            omega
          · by_cases q1 : d ≤ 2
            · have q2 : d ≠ 1 := fun q2 => by subst q2; have h10 : (10 : Nat) ^ 1 = 10 := rfl
                                              omega
              omega
            · have := p10_le (show 2 ≤ d - 1 by omega)
              have h10 : (10 : Nat) ^ 2 = 100 := rfl
              omega
      have w1 := hT n g
      have k1 : (48 + n % 10) < 128 := by omega
      have k2 : (48 + n / 10) < 128 := by omega
      have step1 : zeRun 195 22 [some (.int (ng n)), o1, some (.ref B.buf), o3, o4, some (.int (nn e)), some (.int l6)] [] (zk B im lm) = zeRun 195 85 [some (.int (ng n)), o1, some (.ref B.buf), o3, o4, some (.int (nn (e - 1))), some (.int l6)] [] (zk B (zeU2 im B.buf (e - 1) (nn (48 + n % 10))) lm) := by
        rw [b_195_22, if_pos (by rw [h100]; exact g), b_195_72 (c0 := by rw [ng_neg]; exact inb_nn _ _ g (by omega)), ng_neg, tn_nn n (by omega), w1.1, nn_m1 e (by omega) (by omega), ze_st1 (t := zt_195) rfl rfl (o_st hk (inE (e - 1) (by omega)) _ _ _ _ _ _), tn_nn _ (by omega), nar_k _ k1]
      rw [step1, bc_195_85]
      rcases hd with ⟨q, rfl⟩ | ⟨q, rfl⟩
      · rw [if_pos (by rw [h9]; exact q)]
        refine ⟨_, _, _, _, rfl, fun a ha => u2n _ _ _ _ _ ha, fun p => ?_⟩
        rw [u2_e]
        by_cases gp : p = e - 1
        · rw [if_pos ⟨rfl, gp⟩, if_pos (by omega), show e - 1 - p = 0 by omega, Nat.pow_zero, Nat.div_one]
        · rw [if_neg (fun hh => gp hh.2), if_neg (by omega)]
      · have w2 : zeU2 im B.buf (e - 1) (nn (48 + n % 10)) 2 n = nn (48 + n / 10) := by rw [u2n _ _ _ _ _ (by omega)]; exact w1.2
        rw [if_neg (by rw [h9]; omega), bc_195_91 (c0 := by rw [ng_neg]; exact inb_nn _ _ g (by omega)), ng_neg, tn_nn n (by omega), w2, nn_m1 (e - 1) (by omega) (by omega), ze_st1 (t := zt_195) rfl rfl (o_st hk (inE (e - 1 - 1) (by omega)) _ _ _ _ _ _), tn_nn _ (by omega), nar_k _ k2, show e - 1 - 1 = e - 2 from rfl]
        refine ⟨_, _, _, _, rfl, fun a ha => by rw [u2n _ _ _ _ _ ha, u2n _ _ _ _ _ ha], fun p => ?_⟩
        rw [u2_e, u2_e]
        by_cases gp : p = e - 2
        · rw [if_pos ⟨rfl, gp⟩, if_pos (by omega), show e - 1 - p = 1 by omega, Nat.pow_one, show n / 10 % 10 = n / 10 by omega]
        · rw [if_neg (fun hh => gp hh.2)]
          by_cases gp2 : p = e - 1
          · rw [if_pos ⟨rfl, gp2⟩, if_pos (by omega), show e - 1 - p = 0 by omega, Nat.pow_zero, Nat.div_one]
          · rw [if_neg (fun hh => gp2 hh.2), if_neg (by omega)]
    · have hd3 : 3 ≤ d := by
        by_cases q : 3 ≤ d
        · exact q
        · have := p10_le (show d ≤ 2 by omega)
          have h10 : (10 : Nat) ^ 2 = 100 := rfl
          omega
      have hr : n % 100 < 100 := Nat.mod_lt _ (by decide)
      have w1 := hT _ hr
      have hdg : dgt (n / 100) (d - 2) := by
        have e1 : 10 ^ d = 100 * 10 ^ (d - 2) := by
          rw [show d = (d - 2) + 1 + 1 by omega, p10_s, p10_s, show d - 2 + 1 + 1 - 2 = d - 2 by omega]; omega
        refine ⟨by omega, by omega, ?_⟩
        by_cases q : d = 3
        · exact Or.inl (by omega)
        · right
          have e2 : 10 ^ (d - 1) = 100 * 10 ^ (d - 2 - 1) := by
            rw [show d - 1 = (d - 2 - 1) + 1 + 1 by omega, p10_s, p10_s]; omega
          have h3 := n3.resolve_left (by omega)
          omega
      have step1 : zeRun 195 22 [some (.int (ng n)), o1, some (.ref B.buf), o3, o4, some (.int (nn e)), some (.int l6)] [] (zk B im lm) = zeRun 195 22 [some (.int (ng (n / 100))), o1, some (.ref B.buf), some (.int (ng (n / 100))), some (.int (nn (n % 100))), some (.int (nn (e - 2))), some (.int l6)] [] (zk B (zeU2 (zeU2 im B.buf (e - 1) (nn (48 + n % 100 % 10))) B.buf (e - 2) (nn (48 + n % 100 / 10))) lm) := by
        have w2 : zeU2 im B.buf (e - 1) (nn (48 + n % 100 % 10)) 2 (n % 100) = nn (48 + n % 100 / 10) := by rw [u2n _ _ _ _ _ (by omega)]; exact w1.2
        rw [b_195_22, if_neg (by rw [h100]; exact g), b_195_28 (c1 := by rw [ng_d _ (by omega), ng_r _ (by omega)]; exact inb_nn _ _ hr (by omega)), ng_d _ (by omega), ng_r _ (by omega), tn_nn (n % 100) (by omega), w1.1, nn_m1 e (by omega) (by omega), ze_st1 (t := zt_195) rfl rfl (o_st hk (inE (e - 1) (by omega)) _ _ _ _ _ _), tn_nn _ (by omega), nar_k _ (by omega), ba_195_56 (c0 := inb_nn _ _ hr (by omega)), tn_nn (n % 100) (by omega), w2, nn_m1 (e - 1) (by omega) (by omega), ze_st1 (t := zt_195) rfl rfl (o_st hk (inE (e - 1 - 1) (by omega)) _ _ _ _ _ _), tn_nn _ (by omega), nar_k _ (by omega), bb_195_69]
        rfl
      rw [step1]
      obtain ⟨im2, o0, o3', o4', a1, a2, a3⟩ := ih (d - 2) (n / 100) (e - 2) (zeU2 (zeU2 im B.buf (e - 1) (nn (48 + n % 100 % 10))) B.buf (e - 2) (nn (48 + n % 100 / 10))) (some (.int (ng (n / 100)))) (some (.int (nn (n % 100)))) (by omega) (by omega) hdg (by omega) (by omega) (TBL_fr (fun a ha => by rw [u2n _ _ _ _ _ (by omega), u2n _ _ _ _ _ (by omega)]) hT)
      refine ⟨im2, o0, o3', o4', ?_, fun a ha => by rw [a2 a ha, u2n _ _ _ _ _ ha, u2n _ _ _ _ _ ha], fun p => ?_⟩
      · rw [a1, show e - 2 - (d - 2) = e - d by omega]
      · rw [a3 p, u2_e, u2_e]
        by_cases g1 : e - 2 - (d - 2) ≤ p ∧ p < e - 2
        · rw [if_pos g1, if_pos (by omega), Nat.div_div_eq_div_mul, show 100 * 10 ^ (e - 2 - 1 - p) = 10 ^ (e - 1 - p) by
            rw [show e - 1 - p = (e - 2 - 1 - p) + 1 + 1 by omega, p10_s, p10_s]; omega]
        · rw [if_neg g1]
          by_cases gp : p = e - 2
          · rw [if_pos ⟨rfl, gp⟩, if_pos (by omega), show e - 1 - p = 1 by omega, Nat.pow_one, show n % 100 / 10 = n / 10 % 10 by omega]
          · rw [if_neg (fun hh => gp hh.2)]
            by_cases gp2 : p = e - 1
            · rw [if_pos ⟨rfl, gp2⟩, if_pos (by omega), show e - 1 - p = 0 by omega, Nat.pow_zero, Nat.div_one, show n % 100 % 10 = n % 10 by omega]
            · rw [if_neg (fun hh => gp2 hh.2), if_neg (by omega)]
