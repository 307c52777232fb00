/-! THE MODEL: the replay, from its start -/
theorem s_rp {B : zeB} {lm : Nat → Nat → Int64} (im : Nat → Nat → Int32) (E : Nat) (hE : E ≤ 60) (hn : im 171 5 = nn E) (hp : ∀ k, k < E → im 171 (60 + 5 * k) = nn (eP (im 171) k) ∧ eP (im 171) k < 6) : ∃ im2, zeRun 47 0 [some (.ref 170), none, none, none, none, none, none] [] (zk B im lm) = some (none, zk B im2 lm) ∧ RpM im im2 (if im 171 1 = 0 then -10000005 else 0) E := by
  have key : ∀ c0 : Int32, ∃ im2, zeRun 47 21 [some (.ref 170), some (.int 0), none, none, none, none, none] [] (zk B (zeU2 im 170 13 c0) lm) = some (none, zk B im2 lm) ∧ RpM im im2 c0 E := by
    intro c0
    obtain ⟨im1, h1, h2, h3, h4⟩ := s_rp0 (B := B) (lm := lm) 6 0 (zeU2 im 170 13 c0) rfl none none none none none
    have hM : RpM im im1 c0 0 := by
      refine ⟨?_, ?_, ?_, fun i h => absurd h (Nat.not_lt_zero i)⟩
      · intro a j g1 g2
        rw [h2 a j (by omega), u2_e, if_neg (fun h => g2 h.1 h.2)]
      · rw [h2 170 13 (by decide), u2_s]; rfl
      · intro q hq
        obtain ⟨p1, p2, p3, p4⟩ := h4 q (Nat.zero_le q) hq
        exact ⟨p1, p2, p3, p4⟩
    obtain ⟨im2, h5, h6⟩ := s_rp_loop (B := B) (lm := lm) im c0 E hE hn hp E 0 im1 (by omega) hM none none none none none
    exact ⟨im2, h1.trans h5, h6⟩
  by_cases h : im 171 1 = 0
  · rw [b_47_0_t (hc := h), b_47_10, if_pos h]; exact key _
  · rw [b_47_0_f (hc := h), b_47_15, if_neg h]; exact key _
