/-! THE MODEL: the replay's loop -/
theorem u1_s {α : Type} (f : Nat → α) (a : Nat) (x : α) : zeU1 f a x a = x := if_pos rfl
theorem u1_n {α : Type} (f : Nat → α) (a : Nat) (x : α) (b : Nat) (h : b ≠ a) : zeU1 f a x b = f b := if_neg h
theorem RpM_step (im im' : Nat → Nat → Int32) (c0 : Int32) (k : Nat) (hP : eP (im 171) k < 6) (h : RpM im im' c0 k) : RpM im (zfE im' k) c0 (k + 1) := by
  obtain ⟨ha, hc, hq, hi⟩ := h
  have hR : im' 171 = im 171 := by funext j; exact ha 171 j (Or.inl (by decide)) (fun h => absurd h (by decide))
  have hx : im' 175 (eP (im 171) k) = zsc (im 171) k (eP (im 171) k) := (hq _ hP).1
  have he := fun b j => zfE_e im' k (eP (im 171) k) (im 171 (60 + 5 * k + 1)) (im 171 (60 + 5 * k + 4)) (zam (im 171) k) (zsc (im 171) k (eP (im 171) k) + dlt (im 171 (60 + 5 * k + 4)) (zam (im 171) k)) (zsc (im 171) k (eP (im 171) k)) (vd (im 171) k) (by rw [hR]) (by rw [hR]) (by rw [hR]) hx.symm (by rw [hR]; rfl) rfl (by rw [hR]) b j
  refine ⟨?_, ?_, ?_, ?_⟩
  · intro a j h1 h2
    rw [he]
    have g : ∀ c, 175 ≤ c → c ≤ 181 → ¬ (a = c) := fun c h3 h4 h5 => by omega
    simp only [g 177 (by decide) (by decide), g 176 (by decide) (by decide), g 175 (by decide) (by decide), g 178 (by decide) (by decide), g 181 (by decide) (by decide), g 179 (by decide) (by decide), g 180 (by decide) (by decide), false_and, if_false]
    rw [if_neg (fun h => h2 h.1 h.2)]
    exact ha a j h1 h2
  · rw [he]
    simp [zct, hc]
  · intro q hq6
    obtain ⟨h1, h2, h3, h4⟩ := hq q hq6
    obtain ⟨p1, p2, p3, p4⟩ := hq _ hP
    refine ⟨?_, ?_, ?_, ?_⟩ <;> rw [he] <;> by_cases g : q = eP (im 171) k <;> simp [g, zsc, zrt, zwr, zco, u1_s, u1_n, h1, h2, h3, h4, p1, p2, p3, p4, zam]
  · intro i hik
    by_cases g : i = k
    · subst g
      refine ⟨?_, ?_, ?_⟩ <;> rw [he] <;> simp [zsc, u1_s, zam]
    · have hi' := hi i (by omega)
      refine ⟨?_, ?_, ?_⟩ <;> rw [he] <;> simp [g, hi']
theorem s_rp_loop {B : zeB} {lm : Nat → Nat → Int64} (im : Nat → Nat → Int32) (c0 : Int32) (E : Nat) (hE : E ≤ 60) (hn : im 171 5 = nn E) (hp : ∀ k, k < E → im 171 (60 + 5 * k) = nn (eP (im 171) k) ∧ eP (im 171) k < 6) : ∀ d k im', k + d = E → RpM im im' c0 k → ∀ o2 o3 o4 o5 o6 : Option Value, ∃ im2, zeRun 47 63 [some (.ref 170), some (.int (nn k)), o2, o3, o4, o5, o6] [] (zk B im' lm) = some (none, zk B im2 lm) ∧ RpM im im2 c0 E := by
  intro d
  induction d with
  | zero =>
    intro k im' hk hM o2 o3 o4 o5 o6
    have hR : im' 171 = im 171 := by funext j; exact hM.1 171 j (Or.inl (by decide)) (fun h => absurd h (by decide))
    have hkE : k = E := by omega
    subst hkE
    refine ⟨im', ?_, hM⟩
    rw [b_47_63_t (hc := by rw [hR, hn]; exact Int32.le_refl _), b_47_399]
  | succ d ih =>
    intro k im' hk hM o2 o3 o4 o5 o6
    have hR : im' 171 = im 171 := by funext j; exact hM.1 171 j (Or.inl (by decide)) (fun h => absurd h (by decide))
    obtain ⟨h1, h2⟩ := hp k (by omega)
    obtain ⟨p2, p3, p4, p5, p6, hs⟩ := s_rp_step (B := B) (im := im') (lm := lm) k E o2 o3 o4 o5 o6 (by omega) hE (by rw [hR]; exact hn) (by rw [hR]; exact h1) (by rw [hR]; exact h2)
    obtain ⟨im2, h3, h4⟩ := ih (k + 1) (zfE im' k) (by omega) (RpM_step im im' c0 k h2 hM) p2 p3 p4 p5 p6
    exact ⟨im2, hs.trans h3, h4⟩
