/-! THE INVARIANT of the two objects; a step *-/
def IV (im : zI) (lm : zJ) (R : Nat → Int32) (q : Int32) (X : zX) : Prop := GD R ∧ XG X ∧ NW im lm R q ∧ CX im lm X ∧ im 171 = R ∧ im 170 5 = q ∧ MX im X
def ivE (im : zI) (lm : zJ) : Prop := ∃ R q X, IV im lm R q X
/-- what the calls leave alone -/
def FS (im im' : zI) : Prop := ∀ a, (a < 16 ∨ a = 168 ∨ 187 ≤ a) → im' a = im a
/-- class and model answer alike, and the invariant holds again -/
def StE (C M : zI → zJ → zR) : Prop := ∀ im lm, ivE im lm → ∃ r im1 lm1 im2, C im lm = some (r, im1, lm1) ∧ M im1 lm1 = some (r, im2, lm1) ∧ ivE im2 lm1 ∧ FS im im2 ∧ im1 0 = im 0
theorem MX_fr {im im' : zI} {X : zX} (h : ∀ a, (170 ≤ a ∧ a ≤ 186) → im' a = im a) (hm : MX im X) : MX im' X := by
  obtain ⟨h1, h2, h3, h4, h5⟩ := hm
  refine ⟨?_, ?_, ?_, ?_, ?_⟩
  · rw [h 170 (by omega)]; exact h1
  · intro i hi; rw [← h2 i hi]; unfold hr; rw [h 172 (by omega)]
  · intro s hs; rw [h 174 (by omega)]; refine ⟨(h3 s hs).1, fun g => ?_⟩; rw [← (h3 s hs).2 g]; unfold hr; rw [h 173 (by omega)]
  · rw [h 170 (by omega)]; exact h4
  · rw [h 184 (by omega)]; exact h5
/-- the class's half, then the model's -/
theorem iv_mk {im1 im2 : zI} {lm1 : zJ} {R' : Nat → Int32} {q' : Int32} {X' : zX} (hG : GD R') (hX : XG X') (hn : NW im1 lm1 R' q') (hc : CX im1 lm1 X') (hf : ∀ a, (a < 170 ∨ 186 < a) → im2 a = im1 a) (hR : im2 171 = R') (hq : im2 170 5 = q') (hm : MX im2 X') : ivE im2 lm1 :=
  ⟨R', q', X', hG, hX, NW_of hG (fun a ha => ⟨hf a (by omega), rfl⟩) hn, CX_of hX (fun a h1 h2 => ⟨hf a (by omega), rfl⟩) hc, hR, hq, hm⟩
theorem st_act {D M : zI → zJ → zR} (h : ∀ R, GD R → (∃ a, R 0 = 5 → F5 R a) → ∃ A : zA, DoA D R A ∧ MoA M R A ∧ GD A.2.1) : StE (actW D) M := by
  rintro im lm ⟨R, q, X, hG, hX, hn, hc, hR, hq, hm⟩
  have h5 : ∃ a, R 0 = 5 → F5 R a := by
    by_cases g : R 0 = 5
    · obtain ⟨a, _, ha⟩ := hn.1.2.2.2.2.2.2.2.1 g
      exact ⟨a, fun _ => ha⟩
    · exact ⟨0, fun h => absurd h g⟩
  obtain ⟨A, h1, h2, h3⟩ := h R hG h5
  obtain ⟨im1, lm1, a1, a2, a3, a4⟩ := sW hG h3 hX hc hn (h1 q)
  have hR1 : im1 171 = R := (a4 171 (Or.inr (by decide))).trans hR
  have hm1 : MX im1 X := MX_fr (fun a ha => a4 a (Or.inr (by omega))) hm
  obtain ⟨im2, b1, b2, b3, b4, b5⟩ := h2 im1 lm1 X hX hm1 hR1
  refine ⟨A.1, im1, lm1, im2, a1, b1, iv_mk h3 (XG_rec hG hX) a2 a3 b5 b3 ?_ b2, ?_, a4 0 (Or.inl (by decide))⟩
  · rw [b4, a4 170 (Or.inr (by decide)), hq]
  · intro a ha
    rw [b5 a (by omega), a4 a (by omega)]
theorem st_q {C M : zI → zJ → zR} (h : ∀ R, GD R → ∃ r, QC C R r ∧ DxM M R r R) : StE C M := by
  rintro im lm ⟨R, q, X, hG, hX, hn, hc, hR, hq, hm⟩
  obtain ⟨r, h1, h2⟩ := h R hG
  obtain ⟨im2, b1, b2, b3, b4⟩ := h2 im lm hR
  exact ⟨r, im, lm, im2, h1 im lm q hn, b1, iv_mk hG hX hn hc (FM_fr b2) b3 (b4.trans hq) (MX_fm b2 hm), fun a ha => FM_fr b2 a (by omega), rfl⟩
theorem st_cls {C C' M : zI → zJ → zR} (h : ∀ im lm, C im lm = C' im lm) (h2 : StE C' M) : StE C M := by
  intro im lm hi
  obtain ⟨r, im1, lm1, im2, a1, a2⟩ := h2 im lm hi
  exact ⟨r, im1, lm1, im2, (h im lm).trans a1, a2⟩
/-! the acts -/
/-! the queries -/
/-! type, clearText -/
def xtxt (X : zX) (L : Nat) (C : Nat → Int32) : zX := (xK X, xH X, xT X, xS X, L, C)
theorem chr_v (x : Int32) : ∃ c, c < 65536 ∧ vp_nar FieldType.char x = nn c := by
  show ∃ c, c < 65536 ∧ (x.toUInt32 % 65536).toInt32 = nn c
  refine ⟨x.toUInt32.toNat % 65536, Nat.mod_lt _ (by decide), ?_⟩
  apply Int32.toBitVec_inj.1
  show (x.toUInt32 % 65536).toBitVec = BitVec.ofNat 32 _
  apply BitVec.eq_of_toNat_eq
  rw [BitVec.toNat_ofNat]
  show (x.toUInt32 % 65536).toNat = _
  rw [UInt32.toNat_mod]
  show x.toUInt32.toNat % 65536 = _
  omega