/-! ACTS: what is common; addPlayer -/
theorem orN_n (w : Nat) (h : w < 2147483648) : orN (nn w) = nn w := by unfold orN; rw [if_neg (nn_neg w h)]
theorem orN_m : orN (-1) = -10000005 := by decide
def F5 (R : Nat → Int32) (a : Nat) : Prop := a < cntN (ptB R) 6 ∧ ∀ p, p < 6 → bt (R 13) p = true → (bt (R 14) p = true ↔ plc (ptB R) (flB R) 6 p < a)
theorem plc_c {sel sel' : Nat → Bool} {lt lt' : Nat → Nat → Bool} {n x : Nat} (h : ∀ o, o < n → sel' o = sel o) (h2 : ∀ o, o < n → lt' o x = lt o x) : plc sel' lt' n x = plc sel lt n x :=
  cntN_c n (fun k hk => by rw [h k hk, h2 k hk])
theorem F5_c {R R' : Nat → Int32} {a : Nat} (h13 : R' 13 = R 13) (h14 : R' 14 = R 14) (h : ∀ j, 16 ≤ j → j < 22 → R' j = R j) (hf : F5 R a) : F5 R' a := by
  have e1 : ptB R' = ptB R := by funext p; unfold ptB; rw [h13]
  obtain ⟨h1, h2⟩ := hf
  refine ⟨by rw [e1]; exact h1, ?_⟩
  intro p hp hb
  rw [h13] at hb
  rw [h14, plc_c (sel := ptB R) (lt := flB R) (fun o _ => by rw [e1]) (fun o ho => by unfold flB; rw [h _ (by omega) (by omega), h _ (by omega) (by omega)])]
  exact h2 p hp hb
/-- a refusal -/
theorem FN_q (im : zI) (lm : zJ) (w : Int32) : FN im lm (zeU2 im 16 7 w) lm := ⟨fun a j h1 h2 => by rw [u2_e, if_neg h2], fun _ _ _ => rfl⟩
theorem NW_q {im : zI} {lm : zJ} {R : Nat → Int32} {q : Int32} (hG : GD R) (w : Int32) (h : NW im lm R q) : NW (zeU2 im 16 7 w) lm R w := by
  obtain ⟨h1, h2, h3, h4⟩ := h
  refine ⟨CR_same (GD_E hG) (fun i hi => ⟨u2n _ _ _ _ _ (by omega), rfl⟩) h1, RpV_im (fun a h5 h6 => u2n _ _ _ _ _ (by omega)) h2, u2_s _ _ _ _, ?_⟩
  rw [u2n _ _ _ _ _ (by decide)]; exact h4
theorem ref_D {R : Nat → Int32} {q : Int32} (hG : GD R) (w : Int32) : DoC (fun im lm => zBd (m_17 w im lm) fun v im lm => some (v, im, lm)) R q (-10000003) R w :=
  fun im lm h => ⟨_, _, rfl, NW_q hG w h, FN_q im lm w⟩
theorem ret_D {R : Nat → Int32} {q : Int32} (r : Int32) : DoC (fun im lm => some (r, im, lm)) R q r R q :=
  fun im lm h => ⟨_, _, rfl, h, FN_r im lm⟩
/-- the result of an act: answer, row, reason (0: none) -/
abbrev zA : Type := Int32 × (Nat → Int32) × Int32
def rsn (q w : Int32) : Int32 := if w = 0 then q else w
/-- an act of the class, by its spec -/
def DoA (D : zI → zJ → zR) (R : Nat → Int32) (A : zA) : Prop := ∀ q, DoC D R q A.1 A.2.1 (rsn q A.2.2)
theorem DoA_mk {D : zI → zJ → zR} {R R' : Nat → Int32} {A : zA} {r w : Int32} (hA : A = (r, R', w)) (h : ∀ q, DoC D R q r R' (rsn q w)) : DoA D R A := by rw [hA]; exact h
/-- an act of the model, by its spec -/
def MoA (M : zI → zJ → zR) (R : Nat → Int32) (A : zA) : Prop := ∀ im lm X, XG X → MX im X → im 171 = R → ∃ im', M im lm = some (A.1, im', lm) ∧ MX im' (xrec A.1 R X) ∧ im' 171 = A.2.1 ∧ im' 170 5 = rsn (im 170 5) A.2.2 ∧ ∀ a, (a < 170 ∨ 186 < a) → im' a = im a
theorem MX_170_5 {im : zI} {X : zX} (w : Int32) (h : MX im X) : MX (zeU2 im 170 5 w) X := MX_fm (fun a j h1 h2 h3 h4 => by rw [u2_e, if_neg (by omega)]) h
theorem okR_no {r : Int32} (h : r = -10000001 ∨ r = -10000002 ∨ r = -10000003 ∨ r = -10000004 ∨ r = -10000005) : ¬ okR r := by
  unfold okR
  rcases h with h | h | h | h | h <;> subst h <;> simp
theorem xrec_no {r : Int32} {R : Nat → Int32} {X : zX} (h : ¬ okR r) : xrec r R X = X := if_neg h
theorem xrec_ok {r : Int32} {R : Nat → Int32} {X : zX} (h : okR r) : xrec r R X = xpush R X := if_pos h
theorem okR_of {r : Int32} (h : -10000000 ≤ r.toInt) : okR r := by
  have e1 : (-10000001 : Int32).toInt = -10000001 := by decide +kernel
  have e2 : (-10000002 : Int32).toInt = -10000002 := by decide +kernel
  have e3 : (-10000003 : Int32).toInt = -10000003 := by decide +kernel
  have e4 : (-10000004 : Int32).toInt = -10000004 := by decide +kernel
  have e5 : (-10000005 : Int32).toInt = -10000005 := by decide +kernel
  unfold okR
  rw [ti_eq, ti_eq, ti_eq, ti_eq, ti_eq]
  omega
theorem okR_nn (k : Nat) (h : k < 2147483648) : okR (nn k) := okR_of (by rw [ti_nn k h]; omega)
theorem ret_M {R : Nat → Int32} (r : Int32) (hr : ¬ okR r) : MoA (fun im lm => some (r, im, lm)) R (r, R, 0) := by
  intro im lm X hX hm hR
  exact ⟨im, rfl, by rw [xrec_no hr]; exact hm, hR, rfl, fun _ _ => rfl⟩
/-! addPlayer -/
def aAdd (R : Nat → Int32) : zA := if R 10 = 0 ∧ R 0 = 0 then (if rN R = 6 then (-10000004, R, 0) else (nn (rN R), zeU1 R 1 (nn (rN R + 1)), 0)) else (-10000003, R, 1)
theorem rN_e {R : Nat → Int32} (hG : GD R) : R 1 = nn (rN R) ∧ rN R ≤ 6 := hG.1
theorem DoA_add {R : Nat → Int32} (hG : GD R) : DoA m_18 R (aAdd R) := by
  obtain ⟨hN, hN6⟩ := rN_e hG
  by_cases g0 : R 0 = 0
  · by_cases g10 : R 10 = 0
    · by_cases g6 : rN R = 6
      · have hA : aAdd R = (-10000004, R, 0) := by unfold aAdd; rw [if_pos ⟨g10, g0⟩, if_pos g6]
        refine DoA_mk hA ?_
        intro q im lm h
        refine ⟨im, lm, ?_, h, FN_r im lm⟩
        obtain ⟨⟨⟨c1, c2, c3, c4⟩, _⟩, _⟩ := h
        unfold m_18
        rw [c1, c4, c2, if_pos g0, if_pos g10, hN, g6]
        rfl
      · have hA : aAdd R = (nn (rN R), zeU1 R 1 (nn (rN R + 1)), 0) := by unfold aAdd; rw [if_pos ⟨g10, g0⟩, if_neg g6]
        refine DoA_mk hA ?_
        intro q im lm h
        have hl : nn (rN R) < 6 := by rw [show (6 : Int32) = nn 6 from rfl, nn_lt _ _ (by omega) (by omega)]; omega
        have eE : rE (zeU1 R 1 (nn (rN R + 1))) = rE R := by unfold rE; rw [u1_n _ _ _ _ (by decide)]
        have ag : agK R (zeU1 R 1 (nn (rN R + 1))) (rE R) := fun j h1 _ => u1_n _ _ _ _ (by omega)
        have uo : ∀ j, j ≠ 1 → zeU1 R 1 (nn (rN R + 1)) j = R j := fun j hj => u1_n _ _ _ _ hj
        obtain ⟨⟨⟨c1, c2, c3, c4⟩, c5, ⟨c6, c7⟩, c8, c9, c10, c11, c12, c13⟩, h2, h3, h4⟩ := h
        refine ⟨zeU2 im 17 1 (nn (rN R + 1)), lm, ?_, ⟨⟨⟨?_, ?_, ?_, ?_⟩, ?_, ⟨?_, ?_⟩, ?_, ?_, ?_, ?_, ?_, ?_⟩, ?_, ?_, ?_⟩, ?_⟩
        · unfold m_18
          rw [c1, c4, c2, if_pos g0, if_pos g10, hN, if_neg (by decide), if_pos hl, if_pos hl, nn_addr, nn_subr _ _ (by show 1 ≤ rN R + 1; omega) (by show rN R + 1 < _; omega)]
          rfl
        · rw [u2_j _ _ _ _ _ _ (by decide), uo _ (by decide)]; exact c1
        · rw [u2_s]; rfl
        · rw [u2_j _ _ _ _ _ _ (by decide), uo _ (by decide)]; exact c3
        · rw [u2_j _ _ _ _ _ _ (by decide), uo _ (by decide)]; exact c4
        · intro j hj; rw [u2n _ _ _ _ _ (by decide), uo _ (by omega)]; exact c5 j hj
        · rw [u2n _ _ _ _ _ (by decide), uo _ (by decide)]; exact c6
        · rw [eE]; exact LgR_im (fun i h1 h2 => u2n _ _ _ _ _ (by omega)) ag c7
        · rw [uo 0 (by decide), uo 2 (by decide), u2n _ _ _ _ _ (by decide)]; exact c8
        · rw [uo 0 (by decide), uo 12 (by decide), u2n _ _ _ _ _ (by decide)]; exact c9
        · rw [uo 0 (by decide), g0]; exact fun h => absurd h (by decide)
        · rw [u2n _ _ _ _ _ (by decide), u2n _ _ _ _ _ (by decide), uo 13 (by decide)]
          intro p hp; rw [uo _ (by omega), uo _ (by omega)]; exact c11 p hp
        · rw [uo 0 (by decide), g0]; exact fun h => absurd h (by decide)
        · rw [uo 0 (by decide), u2n _ _ _ _ _ (by decide)]; exact c13
        · rw [eE]; exact RpV_im (fun a h5 h6 => u2n _ _ _ _ _ (by omega)) (RpV_c ag h2)
        · rw [u2n _ _ _ _ _ (by decide)]; exact h3
        · rw [u2n _ _ _ _ _ (by decide)]; exact h4
        · exact ⟨fun a j h1 h2 => by rw [u2n _ _ _ _ _ (by omega)], fun _ _ _ => rfl⟩
    · have hA : aAdd R = (-10000003, R, 1) := by unfold aAdd; rw [if_neg (fun h => g10 h.1)]
      refine DoA_mk hA ?_
      intro q im lm h
      have := ref_D hG 1 im lm h
      obtain ⟨⟨⟨c1, c2, c3, c4⟩, _⟩, _⟩ := h
      unfold m_18
      rw [c1, c4, if_pos g0, if_neg g10, if_pos rfl]
      exact this
  · have hA : aAdd R = (-10000003, R, 1) := by unfold aAdd; rw [if_neg (fun h => g0 h.2)]
    refine DoA_mk hA ?_
    intro q im lm h
    have := ref_D hG 1 im lm h
    obtain ⟨⟨⟨c1, c2, c3, c4⟩, _⟩, _⟩ := h
    unfold m_18
    rw [c1, c4, if_neg g0, if_pos rfl]
    exact this
theorem GD_z {R : Nat → Int32} (hG : GD R) : ∀ j, 360 ≤ j → R j = 0 := hG.2.2.2.2.2.2.2.2.2.2.2.2.2.2.2