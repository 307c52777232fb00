/-! THE MODEL: the replay's loop -/
theorem u1_s {α : Type} (f : Nat → α) (a : Nat) (x : α) : zeU1 f a x a = x := if_pos rfl
theorem u1_n {α : Type} (f : Nat → α) (a : Nat) (x : α) (b : Nat) (h : b ≠ a) : zeU1 f a x b = f b := if_neg h
theorem RpM_step (im im' : Nat → Nat → Int32) (c0 : Int32) (k : Nat) (hP : eP (im 171) k < 6) (h : RpM im im' c0 k) : RpM im (zfE im' k) c0 (k + 1) := by
  obtain ⟨ha, hc, hq, hi⟩ := h
  have hR : im' 171 = im 171 := by funext j; exact ha 171 j (Or.inl (by decide)) (fun h => absurd h (by decide))
  have hx : im' 175 (eP (im 171) k) = zsc (im 171) k (eP (im 171) k) := (hq _ hP).1
  have he := fun b j => zfE_e im' k (eP (im 171) k) (im 171 (60 + 5 * k + 1)) (im 171 (60 + 5 * k + 4)) (zam (im 171) k) (zsc (im 171) k (eP (im 171) k) + dlt (im 171 (60 + 5 * k + 4)) (zam (im 171) k)) (zsc (im 171) k (eP (im 171) k)) (vd (im 171) k) (by rw [hR]) (by rw [hR]) (by rw [hR]) hx.symm (by rw [hR]; rfl) rfl (by rw [hR]) b j
  refine ⟨?_, ?_, ?_, ?_⟩
  · intro a j h1 h2
    rw [he]
    have g : ∀ c, 175 ≤ c → c ≤ 181 → ¬ (a = c) := fun c h3 h4 h5 => by omega
    simp only [g 177 (by decide) (by decide), g 176 (by decide) (by decide), g 175 (by decide) (by decide), g 178 (by decide) (by decide), g 181 (by decide) (by decide), g 179 (by decide) (by decide), g 180 (by decide) (by decide), false_and, if_false]
    rw [if_neg (fun h => h2 h.1 h.2)]
    exact ha a j h1 h2
  · rw [he]
    simp [zct, hc]
  · intro q hq6
    obtain ⟨h1, h2, h3, h4⟩ := hq q hq6
    obtain ⟨p1, p2, p3, p4⟩ := hq _ hP
    refine ⟨?_, ?_, ?_, ?_⟩ <;> rw [he] <;> by_cases g : q = eP (im 171) k <;> simp [g, zsc, zrt, zwr, zco, u1_s, u1_n, h1, h2, h3, h4, p1, p2, p3, p4, zam]
  · intro i hik
    by_cases g : i = k
    · subst g
      refine ⟨?_, ?_, ?_⟩ <;> rw [he] <;> simp [zsc, u1_s, zam]
    · have hi' := hi i (by omega)
      refine ⟨?_, ?_, ?_⟩ <;> rw [he] <;> simp [g, hi']
theorem s_rp_loop {B : zeB} {lm : Nat → Nat → Int64} (im : Nat → Nat → Int32) (c0 : Int32) (E : Nat) (hE : E ≤ 60) (hn : im 171 5 = nn E) (hp : ∀ k, k < E → im 171 (60 + 5 * k) = nn (eP (im 171) k) ∧ eP (im 171) k < 6) : ∀ d k im', k + d = E → RpM im im' c0 k → ∀ o2 o3 o4 o5 o6 : Option Value, ∃ im2, zeRun 47 63 [some (.ref 170), some (.int (nn k)), o2, o3, o4, o5, o6] [] (zk B im' lm) = some (none, zk B im2 lm) ∧ RpM im im2 c0 E := by
  intro d
  induction d with
  | zero =>
    intro k im' hk hM o2 o3 o4 o5 o6
    have hR : im' 171 = im 171 := by funext j; exact hM.1 171 j (Or.inl (by decide)) (fun h => absurd h (by decide))
    have hkE : k = E := by omega
    subst hkE
    refine ⟨im', ?_, hM⟩
    rw [b_47_63_t (hc := by rw [hR, hn]; exact Int32.le_refl _), b_47_399]
  | succ d ih =>
    intro k im' hk hM o2 o3 o4 o5 o6
    have hR : im' 171 = im 171 := by funext j; exact hM.1 171 j (Or.inl (by decide)) (fun h => absurd h (by decide))
    obtain ⟨h1, h2⟩ := hp k (by omega)
    obtain ⟨p2, p3, p4, p5, p6, hs⟩ := s_rp_step (B := B) (im := im') (lm := lm) k E o2 o3 o4 o5 o6 (by omega) hE (by rw [hR]; exact hn) (by rw [hR]; exact h1) (by rw [hR]; exact h2)
    obtain ⟨im2, h3, h4⟩ := ih (k + 1) (zfE im' k) (by omega) (RpM_step im im' c0 k h2 hM) p2 p3 p4 p5 p6
    exact ⟨im2, hs.trans h3, h4⟩
theorem s_rp0 {B : zeB} {lm : Nat → Nat → Int64} : ∀ d k (im : Nat → Nat → Int32), k + d = 6 → ∀ o2 o3 o4 o5 o6 : Option Value, ∃ im2, zeRun 47 21 [some (.ref 170), some (.int (nn k)), o2, o3, o4, o5, o6] [] (zk B im lm) = zeRun 47 63 [some (.ref 170), some (.int (nn 0)), o2, o3, o4, o5, o6] [] (zk B im2 lm) ∧ (∀ a j, ¬ (a = 175 ∨ a = 179 ∨ a = 180 ∨ a = 181) → im2 a j = im a j) ∧ (∀ q, q < k → im2 175 q = im 175 q ∧ im2 179 q = im 179 q ∧ im2 180 q = im 180 q ∧ im2 181 q = im 181 q) ∧ (∀ q, k ≤ q → q < 6 → im2 175 q = 0 ∧ im2 179 q = 0 ∧ im2 180 q = 0 ∧ im2 181 q = 0) := by
  intro d
  induction d with
  | zero =>
    intro k im hk o2 o3 o4 o5 o6
    have : k = 6 := by omega
    subst this
    refine ⟨im, ?_, fun _ _ _ => rfl, fun _ _ => ⟨rfl, rfl, rfl, rfl⟩, fun q h1 h2 => by omega⟩
    rw [b_47_21_t (l1 := nn 6) (hc := Int32.le_refl _), b_47_61]
    rfl
  | succ d ih =>
    intro k im hk o2 o3 o4 o5 o6
    have h0 : ¬ ((6 : Int32) ≤ nn k) := by rw [show (6 : Int32) = nn 6 from rfl, nn_le _ _ (by omega) (by omega)]; omega
    have e1 : zeInb (nn k) 6 = true := inb_nn _ _ (by omega) (by omega)
    have t1 : Int32.toNatClampNeg (nn k) = k := tn_nn _ (by omega)
    have n1 : nn k + 1 = nn (k + 1) := nn_addr k 1
    rw [b_47_21_f (hc := h0), b_47_27 (c0 := e1) (c1 := e1) (c2 := e1) (c3 := e1), t1, n1]
    obtain ⟨im2, h1, h2, h3, h4⟩ := ih (k + 1) (zeU2 (zeU2 (zeU2 (zeU2 im 175 k 0) 179 k 0) 180 k 0) 181 k 0) (by omega) o2 o3 o4 o5 o6
    refine ⟨im2, h1, ?_, ?_, ?_⟩
    · intro a j h
      rw [h2 a j h]
      simp only [not_or] at h
      simp [u2_e, h]
    · intro q hq
      obtain ⟨g1, g2, g3, g4⟩ := h3 q (by omega)
      have : q ≠ k := by omega
      rw [g1, g2, g3, g4]
      simp [u2_e, this]
    · intro q hq hq6
      by_cases g : q = k
      · subst g
        obtain ⟨g1, g2, g3, g4⟩ := h3 q (by omega)
        rw [g1, g2, g3, g4]
        simp [u2_e]
      · exact h4 q (by omega) hq6
