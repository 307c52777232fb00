/-! SOUND OPS: fields and arrays, read -/
theorem zeWf.new {G : zeG} {μ : zeM} (hw : zeWf G μ) {a : Nat} (h0 : 0 < zeKd μ a) (h : zeKd μ a < 100) : 16 ≤ a ∧ a < 16 + zeN μ := by
  refine ⟨?_, (hw.2.2.1 a h0).1⟩
  rcases Nat.lt_or_ge a 16 with h1 | h1
  · rcases hw.2.2.2.2 a h1 with h3 | h3 <;> omega
  · exact h1
theorem zeCellR_obj (G : zeG) {kd ln : Nat} {r : Nat → Option Nat} {f : Nat → Int32} {g : Nat → Int64} {ci : Nat} (h : kd = ci + 1) (hc : ci < 39) : zeCellR G kd ln r f g = .inr (ci, zeFs G r f 0 (zeFL ci)) := by
  unfold zeCellR
  rw [h, if_pos (by omega)]
  rfl
theorem zeCellR_i (G : zeG) {kd ln : Nat} {r : Nat → Option Nat} {f : Nat → Int32} {g : Nat → Int64} {t : Nat} (h : kd = 40 + t) (h5 : t ≠ 5) (h1 : t ≠ 1) : zeCellR G kd ln r f g = .inl (zeCA G t, ln, .inl f) := by
  unfold zeCellR zeArrR
  rw [h, if_neg (by omega), show 40 + t - 40 = t by omega, if_neg h5, if_neg h1]
theorem zeCellR_l (G : zeG) {kd ln : Nat} {r : Nat → Option Nat} {f : Nat → Int32} {g : Nat → Int64} (h : kd = 41) : zeCellR G kd ln r f g = .inl (zeCA G 1, ln, .inr (.inl g)) := by
  subst h
  rfl
theorem zeCellR_q (G : zeG) {kd ln : Nat} {r : Nat → Option Nat} {f : Nat → Int32} {g : Nat → Int64} (h : kd = 45) : zeCellR G kd ln r f g = .inl (zeCA G 5, ln, .inr (.inr (.inr (.inr (fun j => (r j).map (zeAd G)))))) := by
  subst h
  rfl
theorem zeCell_obj (G : zeG) {μ : zeM} {a ci : Nat} (h : zeKd μ a = ci + 1) (hc : ci < 39) : zeCell G μ a = .inr (ci, zeFs G (zeRm μ a) (zeIm μ a) 0 (zeFL ci)) := zeCellR_obj G h hc
theorem zeCell_i (G : zeG) {μ : zeM} {a t : Nat} (h : zeKd μ a = 40 + t) (h5 : t ≠ 5) (h1 : t ≠ 1) : zeCell G μ a = .inl (zeCA G t, zeLn μ a, .inl (zeIm μ a)) := zeCellR_i G h h5 h1
theorem zeCell_l (G : zeG) {μ : zeM} {a : Nat} (h : zeKd μ a = 41) : zeCell G μ a = .inl (zeCA G 1, zeLn μ a, .inr (.inl (zeLm μ a))) := zeCellR_l G h
theorem zeCell_q (G : zeG) {μ : zeM} {a : Nat} (h : zeKd μ a = 45) : zeCell G μ a = .inl (zeCA G 5, zeLn μ a, .inr (.inr (.inr (.inr (fun j => (zeRm μ a j).map (zeAd G)))))) := zeCellR_q G h
theorem zeCell_a (G : zeG) {μ : zeM} {a t : Nat} (h : zeKd μ a = 40 + t) : ∃ x : vp_A, zeCell G μ a = .inl (zeCA G t, x) ∧ x.1 = zeLn μ a := by
  unfold zeCell zeCellR
  rw [h, if_neg (by omega), show 40 + t - 40 = t by omega]
  refine ⟨_, rfl, ?_⟩
  unfold zeArrR
  split
  · rfl
  · split <;> rfl
theorem zeCl_lt {ci : Nat} {q : vw_C} (h : zeCl[ci]? = some q) : ci < 39 := by
  have := (List.getElem?_eq_some_iff.mp h).1
  simp [zeCl] at this
  omega
theorem zeInb_in {i : Int32} {n : Nat} (h : zeInb i n = true) : vp_in i n := by
  unfold zeInb at h
  rw [Bool.and_eq_true] at h
  intro q
  rcases q with q | q
  · simp [q] at h
  · have := h.2
    simp [Nat.blt] at this
    omega
section ZG
variable {G : zeG} {i pc n : Nat}
theorem zs_gf {own C ref : String} {T : u_T} {N ci j index : Nat} (ho : (zeNam i).cls = own) (hc : zeCl[ci]? = some (C, T, N)) (hin : ∀ w ∈ u_ws C T N, w ∈ zeBT) (hj : j < N) (hb : (zeFL ci)[j]? = some false) (hlink : Cond.fieldLink own index ref (T j).2.1 (T j).2.2.1 ∈ zeBT) (href : (T j).1 = ref) (hd : decode (zeCod i) pc = .ok (.getfield index, 3)) (hn : pc + 3 = n) : zeSnd G i pc (zoGf ci j n) := by
  subst hn
  subst href
  refine zs_st (fun L st μ x e => ?_) fun L st μ pc' L' st' μ' e => ?_
  · unfold zoGf at e
    split at e
    · rename_i a st'
      cases hk : Nat.beq (zeKd μ a) (ci + 1) <;> rw [hk] at e
      · cases e
      · cases zeNx_i e
    · cases e
  · unfold zoGf at e
    split at e
    · rename_i a st'
      cases hk : Nat.beq (zeKd μ a) (ci + 1) <;> rw [hk] at e
      · cases e
      · cases zeNx_i e
        refine ⟨rfl, true, rfl, fun _ hw p l e R s m args below meth c Q H locs ls cells slots hcx _ _ _ _ hP hS _ K => ?_⟩
        have hk := Nat.eq_of_beq_eq_true hk
        have hlt := zeCl_lt hc
        obtain ⟨h1, h2⟩ := hw.new (a := a) (by omega) (by omega)
        have he := zeW_get (G := G) h1 h2
        rw [zeCell_obj G hk hlt] at he
        have hv := zeFs_get G (zeRm μ a) (zeIm μ a) _ 0 j _ hb
        rw [if_neg (by decide), Nat.zero_add] at hv
        rw [List.map_cons, zeTr_r G h1]
        exact va_get hcx.1 hcx.2.1 hcx.ws hin (ho ▸ hcx.own) hcx.K hP.1 (a - 16) he hc j hj (hcx.ws _ hlink) (fun _ h => h) hv hd K
    · cases e
theorem zs_gr {own C ref : String} {T : u_T} {N ci j index : Nat} (ho : (zeNam i).cls = own) (hc : zeCl[ci]? = some (C, T, N)) (hin : ∀ w ∈ u_ws C T N, w ∈ zeBT) (hj : j < N) (hb : (zeFL ci)[j]? = some true) (hlink : Cond.fieldLink own index ref (T j).2.1 (T j).2.2.1 ∈ zeBT) (href : (T j).1 = ref) (hd : decode (zeCod i) pc = .ok (.getfield index, 3)) (hn : pc + 3 = n) : zeSnd G i pc (zoGr ci j n) := by
  subst hn
  subst href
  refine zs_st (fun L st μ x e => ?_) fun L st μ pc' L' st' μ' e => ?_
  · unfold zoGr at e
    split at e
    · rename_i a st'
      cases hk : Nat.beq (zeKd μ a) (ci + 1) <;> rw [hk] at e
      · cases e
      · cases zeNx_i e
    · cases e
  · unfold zoGr at e
    split at e
    · rename_i a st'
      cases hk : Nat.beq (zeKd μ a) (ci + 1) <;> rw [hk] at e
      · cases e
      · cases zeNx_i e
        refine ⟨rfl, true, rfl, fun _ hw p l e R s m args below meth c Q H locs ls cells slots hcx _ _ _ _ hP hS _ K => ?_⟩
        have hk := Nat.eq_of_beq_eq_true hk
        have hlt := zeCl_lt hc
        obtain ⟨h1, h2⟩ := hw.new (a := a) (by omega) (by omega)
        have he := zeW_get (G := G) h1 h2
        rw [zeCell_obj G hk hlt] at he
        have hv := zeFs_get G (zeRm μ a) (zeIm μ a) _ 0 j _ hb
        rw [if_pos rfl, Nat.zero_add] at hv
        rw [List.map_cons, zeTr_r G h1]
        have hvr : va_rf ((zeRm μ a j).map (zeAd G)) = zeTr G (zeRf (zeRm μ a j)) := by
          cases hr : zeRm μ a j with
          | none => rfl
          | some r => exact (zeTr_r G (hw.2.2.2.1 a j r hr h1)).symm
        rw [hvr] at hv
        exact va_get hcx.1 hcx.2.1 hcx.ws hin (ho ▸ hcx.own) hcx.K hP.1 (a - 16) he hc j hj (hcx.ws _ hlink) (fun _ h => h) hv hd K
    · cases e
/-- fields of the text constants: value at place 0, coder at place 1 -/
theorem zs_gfO {own : String} {index : Nat} (ho : (zeNam i).cls = own) (hlink : Cond.fieldLink own index "java/lang/String" "coder" "B" ∈ zeBT) (hd : decode (zeCod i) pc = .ok (.getfield index, 3)) (hn : pc + 3 = n) : zeSnd G i pc (zoGfO 1 n) := by
  subst hn
  refine zs_st (fun L st μ x e => ?_) fun L st μ pc' L' st' μ' e => ?_
  · unfold zoGfO at e
    split at e
    · rename_i a st'
      cases hk : Nat.beq (zeKd μ a) 110 <;> rw [hk] at e
      · cases e
      · cases zeNx_i e
    · cases e
  · unfold zoGfO at e
    split at e
    · rename_i a st'
      cases hk : Nat.beq (zeKd μ a) 110 <;> rw [hk] at e
      · cases e
      · cases zeNx_i e
        refine ⟨rfl, true, rfl, fun _ hw p l e R s m args below meth c Q H locs ls cells slots hcx _ _ _ _ hP hS _ K => ?_⟩
        have hk := Nat.eq_of_beq_eq_true hk
        have h1 : a < 16 := by
          rcases (hw.2.2.1 a (by omega)).2 with h | h <;> omega
        obtain ⟨g1, g2, g3, g4⟩ := hw.1 a h1
        obtain ⟨t, r, e1, e2, e3, e4, e5, e6⟩ := (hcx.old a h1).2.2.1 (by omega)
        rw [List.map_cons, zeTr_o G h1, e1]
        rw [List.map_cons, zeTr_i, g3] at K
        exact vk_getf hcx.1 hcx.2.1 e6 hS (ho ▸ hcx.own) (hcx.ws _ hlink) (fun _ h => h) hd K
    · cases e
theorem zs_grO {own : String} {index : Nat} (ho : (zeNam i).cls = own) (hlink : Cond.fieldLink own index "java/lang/String" "value" "[B" ∈ zeBT) (hd : decode (zeCod i) pc = .ok (.getfield index, 3)) (hn : pc + 3 = n) : zeSnd G i pc (zoGrO 0 n) := by
  subst hn
  refine zs_st (fun L st μ x e => ?_) fun L st μ pc' L' st' μ' e => ?_
  · unfold zoGrO at e
    split at e
    · rename_i a st'
      cases hk : Nat.beq (zeKd μ a) 110 <;> rw [hk] at e
      · cases e
      · cases zeNx_i e
    · cases e
  · unfold zoGrO at e
    split at e
    · rename_i a st'
      cases hk : Nat.beq (zeKd μ a) 110 <;> rw [hk] at e
      · cases e
      · cases zeNx_i e
        refine ⟨rfl, true, rfl, fun _ hw p l e R s m args below meth c Q H locs ls cells slots hcx _ _ _ _ hP hS _ K => ?_⟩
        have hk := Nat.eq_of_beq_eq_true hk
        have h1 : a < 16 := by
          rcases (hw.2.2.1 a (by omega)).2 with h | h <;> omega
        obtain ⟨g1, g2, g3, g4⟩ := hw.1 a h1
        obtain ⟨t, r, e1, e2, e3, e4, e5, e6⟩ := (hcx.old a h1).2.2.1 (by omega)
        rw [List.map_cons, zeTr_o G h1, e1]
        rw [List.map_cons, g4, e2, show zeTr G (zeRf (some r)) = zeOv G r from zeTr_o G e3] at K
        exact vk_getf hcx.1 hcx.2.1 e5 hS (ho ▸ hcx.own) (hcx.ws _ hlink) (fun _ h => h) hd K
    · cases e
/-- int, byte, char and boolean arrays -/
theorem zs_Ld {t : Nat} (t0 : Nat) (ht : t = 40 + t0) (h5 : t0 ≠ 5) (h1' : t0 ≠ 1) (h6 : t0 < 6) (hrow : ∀ (p : Program) (l : Launch) (e : Env) (R : Room) (s : State) (m : MethodId) (args : Array Value) (below : List Frame) (meth : Method) (c : Code) (Q : State → Prop) (H : Heap) (locs : List Loc) (ls : Array Slot) (cells slots : Nat) (ws : va_W) (q0 a nn : Nat) (f : Nat → Int32) (j : Int32) (rest : List Value),
      zeCx G i p s m args meth c → va_P (zeD G) zeCl ws H → ws[q0]? = some (a, .inl (zeCA G t0, nn, .inl f)) → vp_in j nn → W p l e R s m args below meth c H locs cells slots Q (F0 m n ls (.int (f j.toNatClampNeg) :: rest)) → W p l e R s m args below meth c H locs cells slots Q (F0 m pc ls (.int j :: .ref a :: rest))) : zeSnd G i pc (zoLd t n) := by
  refine zs_st (fun L st μ x e => ?_) fun L st μ pc' L' st' μ' e => ?_
  · unfold zoLd at e
    split at e
    · rename_i j a st'
      cases hk : Nat.beq (zeKd μ a) t <;> rw [hk] at e
      · cases e
      · cases zeNx_i e
    · cases e
  · unfold zoLd at e
    split at e
    · rename_i j a st'
      cases hk : Nat.beq (zeKd μ a) t <;> rw [hk] at e
      · cases e
      · cases zeNx_i e
        refine ⟨rfl, _, rfl, fun hb hw p l e R s m args below meth c Q H locs ls cells slots hcx _ _ _ _ hP hS _ K => ?_⟩
        have hk := Nat.eq_of_beq_eq_true hk
        obtain ⟨h1, h2⟩ := hw.new (a := a) (by omega) (by omega)
        have he := zeW_get (G := G) h1 h2
        rw [zeCell_i G (hk.trans ht) h5 h1'] at he
        rw [List.map_cons, List.map_cons, zeTr_r G h1]
        exact hrow p l e R s m args below meth c Q H locs ls cells slots _ _ _ _ _ j _ hcx hP.1 he (zeInb_in hb) K
    · cases e
theorem zs_iaload (hd : decode (zeCod i) pc = .ok (.iaload, 1)) (hn : pc + 1 = n) : zeSnd G i pc (zoLd 40 n) := by
  subst hn
  exact zs_Ld 0 rfl (by decide) (by decide) (by decide) fun p l e R s m args below meth c Q H locs ls cells slots ws q0 a nn f j rest hcx hP he hin K => va_iald hcx.1 hcx.2.1 hcx.K hP q0 0 he rfl hin hd K
theorem zs_caload (hd : decode (zeCod i) pc = .ok (.caload, 1)) (hn : pc + 1 = n) : zeSnd G i pc (zoLd 43 n) := by
  subst hn
  exact zs_Ld 3 rfl (by decide) (by decide) (by decide) fun p l e R s m args below meth c Q H locs ls cells slots ws q0 a nn f j rest hcx hP he hin K => va_cald hcx.1 hcx.2.1 hcx.K hP q0 3 he rfl hin hd K
theorem zs_baloadZ (hd : decode (zeCod i) pc = .ok (.baload, 1)) (hn : pc + 1 = n) : zeSnd G i pc (zoLd 44 n) := by
  subst hn
  exact zs_Ld 4 rfl (by decide) (by decide) (by decide) fun p l e R s m args below meth c Q H locs ls cells slots ws q0 a nn f j rest hcx hP he hin K => va_zald hcx.1 hcx.2.1 hcx.K hP q0 4 he rfl hin hd K
theorem zs_laload (hd : decode (zeCod i) pc = .ok (.laload, 1)) (hn : pc + 1 = n) : zeSnd G i pc (zoLld n) := by
  subst hn
  refine zs_st (fun L st μ x e => ?_) fun L st μ pc' L' st' μ' e => ?_
  · unfold zoLld at e
    split at e
    · rename_i j a st'
      cases hk : Nat.beq (zeKd μ a) 41 <;> rw [hk] at e
      · cases e
      · cases zeNx_i e
    · cases e
  · unfold zoLld at e
    split at e
    · rename_i j a st'
      cases hk : Nat.beq (zeKd μ a) 41 <;> rw [hk] at e
      · cases e
      · cases zeNx_i e
        refine ⟨rfl, _, rfl, fun hb hw p l e R s m args below meth c Q H locs ls cells slots hcx _ _ _ _ hP hS _ K => ?_⟩
        have hk := Nat.eq_of_beq_eq_true hk
        obtain ⟨h1, h2⟩ := hw.new (a := a) (by omega) (by omega)
        have he := zeW_get (G := G) h1 h2
        rw [zeCell_l G hk] at he
        rw [List.map_cons, List.map_cons, zeTr_r G h1]
        exact va_lald hcx.1 hcx.2.1 hcx.K hP.1 (a - 16) 1 he rfl (zeInb_in hb) hd K
    · cases e
theorem zs_aaload (hd : decode (zeCod i) pc = .ok (.aaload, 1)) (hn : pc + 1 = n) : zeSnd G i pc (zoAld n) := by
  subst hn
  refine zs_st (fun L st μ x e => ?_) fun L st μ pc' L' st' μ' e => ?_
  · unfold zoAld at e
    split at e
    · rename_i j a st'
      cases hk : Nat.beq (zeKd μ a) 45 <;> rw [hk] at e
      · cases e
      · cases zeNx_i e
    · cases e
  · unfold zoAld at e
    split at e
    · rename_i j a st'
      cases hk : Nat.beq (zeKd μ a) 45 <;> rw [hk] at e
      · cases e
      · cases zeNx_i e
        refine ⟨rfl, _, rfl, fun hb hw p l e R s m args below meth c Q H locs ls cells slots hcx _ _ _ _ hP hS _ K => ?_⟩
        have hk := Nat.eq_of_beq_eq_true hk
        obtain ⟨h1, h2⟩ := hw.new (a := a) (by omega) (by omega)
        have he := zeW_get (G := G) h1 h2
        rw [zeCell_q G hk] at he
        have hvr : va_rf ((zeRm μ a j.toNatClampNeg).map (zeAd G)) = zeTr G (zeRf (zeRm μ a j.toNatClampNeg)) := by
          cases hr : zeRm μ a j.toNatClampNeg with
          | none => rfl
          | some r => exact (zeTr_r G (hw.2.2.2.1 a _ r hr h1)).symm
        rw [List.map_cons, List.map_cons, zeTr_r G h1]
        rw [List.map_cons, ← hvr] at K
        exact va_aldq hcx.1 hcx.2.1 hcx.K hP.1 (a - 16) 5 he rfl (zeInb_in hb) hd K
    · cases e
theorem zs_alen (hd : decode (zeCod i) pc = .ok (.arraylength, 1)) (hn : pc + 1 = n) : zeSnd G i pc (zoLen n) := by
  subst hn
  refine zs_st (fun L st μ x e => ?_) fun L st μ pc' L' st' μ' e => ?_
  · unfold zoLen at e
    split at e
    · rename_i a st'
      cases hk : (Nat.ble 40 (zeKd μ a) && Nat.ble (zeKd μ a) 45) <;> rw [hk] at e
      · cases e
      · cases zeNx_i e
    · cases e
  · unfold zoLen at e
    split at e
    · rename_i a st'
      cases hk : (Nat.ble 40 (zeKd μ a) && Nat.ble (zeKd μ a) 45) <;> rw [hk] at e
      · cases e
      · cases zeNx_i e
        refine ⟨rfl, true, rfl, fun hb hw p l e R s m args below meth c Q H locs ls cells slots hcx _ _ _ _ hP hS _ K => ?_⟩
        rw [Bool.and_eq_true] at hk
        have k1 := Nat.le_of_ble_eq_true hk.1
        have k2 := Nat.le_of_ble_eq_true hk.2
        obtain ⟨h1, h2⟩ := hw.new (a := a) (by omega) (by omega)
        have he := zeW_get (G := G) h1 h2
        obtain ⟨x9, hx9, hlen⟩ := zeCell_a G (μ := μ) (a := a) (t := zeKd μ a - 40) (by omega)
        rw [hx9] at he
        rw [List.map_cons, zeTr_r G h1]
        have hty : ∃ ty, (zeTY G)[zeKd μ a - 40]? = some (zeCA G (zeKd μ a - 40), ty) := by
          generalize hk9 : zeKd μ a - 40 = k9
          have : k9 ≤ 5 := by omega
          match k9, this with
          | 0, _ => exact ⟨_, rfl⟩
          | 1, _ => exact ⟨_, rfl⟩
          | 2, _ => exact ⟨_, rfl⟩
          | 3, _ => exact ⟨_, rfl⟩
          | 4, _ => exact ⟨_, rfl⟩
          | 5, _ => exact ⟨_, rfl⟩
          | k + 6, h => exact absurd h (by omega)
        obtain ⟨ty, hty⟩ := hty
        exact va_alen hcx.1 hcx.2.1 hcx.K hP.1 (a - 16) _ he hty (by rw [hlen]) hd K
    · cases e
/-! arrays that stood at the start -/
theorem zs_LdO {t : Nat} (hold : 100 ≤ t) (hrow : ∀ (p : Program) (l : Launch) (e : Env) (R : Room) (s : State) (m : MethodId) (args : Array Value) (below : List Frame) (meth : Method) (c : Code) (Q : State → Prop) (H : Heap) (locs : List Loc) (ls : Array Slot) (cells slots : Nat) (a : Nat) (j : Int32) (rest : List Value),
      zeCx G i p s m args meth c → va_S (zeA G) s.heap H locs → a < 16 → zeOk G a = t → vp_in j (zeOl G a) → W p l e R s m args below meth c H locs cells slots Q (F0 m n ls (.int (zeOi G a j.toNatClampNeg) :: rest)) → W p l e R s m args below meth c H locs cells slots Q (F0 m pc ls (.int j :: zeOv G a :: rest))) : zeSnd G i pc (zoLd t n) := by
  refine zs_st (fun L st μ x e => ?_) fun L st μ pc' L' st' μ' e => ?_
  · unfold zoLd at e
    split at e
    · rename_i j a st'
      cases hk : Nat.beq (zeKd μ a) t <;> rw [hk] at e
      · cases e
      · cases zeNx_i e
    · cases e
  · unfold zoLd at e
    split at e
    · rename_i j a st'
      cases hk : Nat.beq (zeKd μ a) t <;> rw [hk] at e
      · cases e
      · cases zeNx_i e
        refine ⟨rfl, _, rfl, fun hb hw p l e R s m args below meth c Q H locs ls cells slots hcx _ _ _ _ hP hS _ K => ?_⟩
        have hk := Nat.eq_of_beq_eq_true hk
        have h1 : a < 16 := by
          rcases (hw.2.2.1 a (by omega)).2 with h | h <;> omega
        obtain ⟨g1, g2, g3, g4⟩ := hw.1 a h1
        rw [List.map_cons, List.map_cons, zeTr_o G h1]
        rw [g3] at K
        exact hrow p l e R s m args below meth c Q H locs ls cells slots a j _ hcx hS h1 (by omega) (by rw [← g2]; exact zeInb_in hb) K
    · cases e
theorem zs_ialoadO (hd : decode (zeCod i) pc = .ok (.iaload, 1)) (hn : pc + 1 = n) : zeSnd G i pc (zoLd 100 n) := by
  subst hn
  refine zs_LdO (by decide) fun p l e R s m args below meth c Q H locs ls cells slots a j rest hcx hS h1 hk hin K => ?_
  obtain ⟨t, e1, e2⟩ := (hcx.old a h1).1 hk
  rw [e1]
  exact va_ti hcx.1 hcx.2.1 e2 hS hin rfl hd K
theorem zs_baloadO (hd : decode (zeCod i) pc = .ok (.baload, 1)) (hn : pc + 1 = n) : zeSnd G i pc (zoLd 102 n) := by
  subst hn
  refine zs_LdO (by decide) fun p l e R s m args below meth c Q H locs ls cells slots a j rest hcx hS h1 hk hin K => ?_
  obtain ⟨t, e1, e2, -⟩ := (hcx.old a h1).2.1 hk
  rw [e1]
  exact va_tb hcx.1 hcx.2.1 e2 hS hin rfl hd K
theorem zs_alenO (hd : decode (zeCod i) pc = .ok (.arraylength, 1)) (hn : pc + 1 = n) : zeSnd G i pc (zoLenO n) := by
  subst hn
  refine zs_st (fun L st μ x e => ?_) fun L st μ pc' L' st' μ' e => ?_
  · unfold zoLenO at e
    split at e
    · rename_i a st'
      cases hk : (Nat.beq (zeKd μ a) 100 || Nat.beq (zeKd μ a) 102) <;> rw [hk] at e
      · cases e
      · cases zeNx_i e
    · cases e
  · unfold zoLenO at e
    split at e
    · rename_i a st'
      cases hk : (Nat.beq (zeKd μ a) 100 || Nat.beq (zeKd μ a) 102) <;> rw [hk] at e
      · cases e
      · cases zeNx_i e
        refine ⟨rfl, true, rfl, fun hb hw p l e R s m args below meth c Q H locs ls cells slots hcx _ _ _ _ hP hS _ K => ?_⟩
        have hk : zeKd μ a = 100 ∨ zeKd μ a = 102 := by
          rcases Bool.or_eq_true _ _ ▸ hk with h | h
          · exact Or.inl (Nat.eq_of_beq_eq_true h)
          · exact Or.inr (Nat.eq_of_beq_eq_true h)
        have h1 : a < 16 := by
          rcases (hw.2.2.1 a (by omega)).2 with h | h <;> omega
        obtain ⟨g1, g2, g3, g4⟩ := hw.1 a h1
        rw [List.map_cons, zeTr_o G h1]
        rw [List.map_cons, zeTr_i, g2] at K
        rcases hk with hk | hk
        · obtain ⟨t, e1, e2⟩ := (hcx.old a h1).1 (by omega)
          rw [e1]
          exact va_tlen hcx.1 hcx.2.1 e2 hS rfl hd K
        · obtain ⟨t, e1, e2, -⟩ := (hcx.old a h1).2.1 (by omega)
          rw [e1]
          exact va_tlen hcx.1 hcx.2.1 e2 hS rfl hd K
    · cases e
end ZG
