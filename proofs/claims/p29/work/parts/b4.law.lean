/-! THE LAW'S START: the machine's cells at the start are the first memory's -/
def zG0 (N0 : Nat) (Ov : Nat → Value) (CA : Nat → ClassId) (D : va_G) (len : Nat) (w : zI) : zeG := (N0, Ov, CA, D, KDt 0, LNt len 0, imZ w, rmZ)
theorem kd0_c (k : Nat) : KDt 0 k = 0 ∨ (k < 16 ∧ KDt 0 k = 100) := by
  by_cases g : k < 16
  · have h : ∀ k : Fin 16, KDt 0 k.1 = 0 ∨ KDt 0 k.1 = 100 := by decide +kernel
    rcases h ⟨k, g⟩ with h | h
    · exact Or.inl h
    · exact Or.inr ⟨g, h⟩
  · left
    show cond (Nat.blt k (16 + 0)) (zeKs k) 0 = 0
    rw [blt_f (by omega)]; rfl
theorem zeWf_0 {N0 : Nat} {Ov : Nat → Value} {CA : Nat → ClassId} {D : va_G} {len : Nat} {w : zI} : zeWf (zG0 N0 Ov CA D len w) (zc len 0 0 rmZ (imZ w) lmZ) := by
  refine ⟨fun k _ => ⟨rfl, rfl, fun _ => rfl, fun _ => rfl⟩, ?_, ?_, ?_, ?_⟩
  · intro k hk j
    have hk : KDt 0 k = 42 ∨ KDt 0 k = 102 := hk
    rcases kd0_c k with h | ⟨h16, h⟩
    · rw [h] at hk; exact absurd hk (by decide)
    · rw [h] at hk; exact absurd hk (by decide)
  · intro k hk
    have hk : 0 < KDt 0 k := hk
    rcases kd0_c k with h | ⟨h16, _⟩
    · rw [h] at hk; exact absurd hk (by decide)
    · exact ⟨by show k < 16 + 0; omega, Or.inr h16⟩
  · intro k j a h hk
    have h : rmZ k j = some a := h
    unfold rmZ at h
    rw [blt_f hk] at h; cases h
  · intro k _
    show KDt 0 k = 0 ∨ 100 ≤ KDt 0 k
    rcases kd0_c k with h | ⟨_, h⟩ <;> omega
theorem zePic_0 {N0 : Nat} {Ov : Nat → Value} {CA : Nat → ClassId} {D : va_G} {len : Nat} {w : zI} {H : Heap} (h : H.size = N0) : zePic (zG0 N0 Ov CA D len w) (zc len 0 0 rmZ (imZ w) lmZ) H := by
  refine ⟨?_, h⟩
  show va_P D zeCl [] H
  intro i q hq
  exact absurd hq (by simp)
