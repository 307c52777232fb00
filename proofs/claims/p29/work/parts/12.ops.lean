/-! SOUND OPS: new cells, arraycopy, Math, statics, constants -/
section ZN
variable {G : zeG} {i pc n : Nat}
theorem zeMon.new (kd ln sl : Nat) (μ : zeM) : zeMon μ (zeNew kd ln sl μ) := ⟨fun h => h, Nat.le_succ _, Nat.le_add_right _ _⟩
theorem zeU1_ne {α : Type} {f : Nat → α} {a : Nat} {x : α} {a' : Nat} (h : a' ≠ a) : zeU1 f a x a' = f a' := by
  simp [zeU1, h]
theorem zeU1_eq {α : Type} (f : Nat → α) (a : Nat) (x : α) : zeU1 f a x a = x := by
  simp [zeU1]
theorem zeWf.nw {μ : zeM} (h : zeWf G μ) {kd ln sl : Nat} (hk : kd < 100) : zeWf G (zeNew kd ln sl μ) := by
  refine ⟨fun k hk' => ?_, fun k hk' j => ?_, fun k hk' => ?_, fun k j b hb h16 => ?_, fun k hk' => ?_⟩
  · obtain ⟨e1, e2, e3, e4⟩ := h.1 k hk'
    have hne : k ≠ 16 + zeN μ := by omega
    exact ⟨(zeU1_ne hne).trans e1, (zeU1_ne hne).trans e2, fun j => (congrFun (zeU1_ne hne) j).trans (e3 j), fun j => (congrFun (zeU1_ne hne) j).trans (e4 j)⟩
  · by_cases hne : k = 16 + zeN μ
    · subst hne
      have : zeIm (zeNew kd ln sl μ) (16 + zeN μ) j = 0 := congrFun (zeU1_eq (zeIm μ) (16 + zeN μ) (fun _ => 0)) j
      rw [this]
      rfl
    · have e1 : zeIm (zeNew kd ln sl μ) k j = zeIm μ k j := congrFun (zeU1_ne hne) j
      have e2 : zeKd (zeNew kd ln sl μ) k = zeKd μ k := zeU1_ne hne
      rw [e1]
      rw [e2] at hk'
      exact h.2.1 k hk' j
  · by_cases hne : k = 16 + zeN μ
    · have e2 : zeKd (zeNew kd ln sl μ) k = kd := by rw [hne]; exact zeU1_eq _ _ _
      rw [e2]
      refine ⟨?_, Or.inl hk⟩
      show k < 16 + (zeN μ + 1)
      omega
    · have e2 : zeKd (zeNew kd ln sl μ) k = zeKd μ k := zeU1_ne hne
      rw [e2] at hk' ⊢
      obtain ⟨g1, g2⟩ := h.2.2.1 k hk'
      refine ⟨?_, g2⟩
      show k < 16 + (zeN μ + 1)
      omega
  · by_cases hne : k = 16 + zeN μ
    · have e2 : zeRm (zeNew kd ln sl μ) k j = none := by rw [hne]; exact congrFun (zeU1_eq (zeRm μ) (16 + zeN μ) (fun _ => none)) j
      rw [e2] at hb
      cases hb
    · have e2 : zeRm (zeNew kd ln sl μ) k j = zeRm μ k j := congrFun (zeU1_ne hne) j
      rw [e2] at hb
      exact h.2.2.2.1 k j b hb h16
  · have hne : k ≠ 16 + zeN μ := by omega
    have e2 : zeKd (zeNew kd ln sl μ) k = zeKd μ k := zeU1_ne hne
    rw [e2]
    exact h.2.2.2.2 k hk'
theorem zeCell_nw {μ : zeM} {kd ln sl a : Nat} (h : a ≠ 16 + zeN μ) : zeCell G (zeNew kd ln sl μ) a = zeCell G μ a := by
  show zeCellR G (zeU1 (zeKd μ) (16 + zeN μ) kd a) (zeU1 (zeLn μ) (16 + zeN μ) ln a) (zeU1 (zeRm μ) (16 + zeN μ) _ a) (zeU1 (zeIm μ) (16 + zeN μ) _ a) (zeU1 (zeLm μ) (16 + zeN μ) _ a) = _
  rw [zeU1_ne h, zeU1_ne h, zeU1_ne h, zeU1_ne h, zeU1_ne h]
  rfl
theorem zeCell_nwE (G : zeG) (μ : zeM) (kd ln sl : Nat) : zeCell G (zeNew kd ln sl μ) (16 + zeN μ) = zeCellR G kd ln (fun _ => none) (fun _ => 0) (fun _ => 0) := by
  show zeCellR G (zeU1 (zeKd μ) (16 + zeN μ) kd (16 + zeN μ)) (zeU1 (zeLn μ) (16 + zeN μ) ln (16 + zeN μ)) (zeU1 (zeRm μ) (16 + zeN μ) _ (16 + zeN μ)) (zeU1 (zeIm μ) (16 + zeN μ) _ (16 + zeN μ)) (zeU1 (zeLm μ) (16 + zeN μ) _ (16 + zeN μ)) = _
  rw [zeU1_eq, zeU1_eq, zeU1_eq, zeU1_eq, zeU1_eq]
theorem zePic.nw {μ : zeM} {kd ln sl : Nat} {H H1 : Heap} (h : zePic G μ H) (hc : va_at (zeD G) zeCl (zeN0 G + zeN μ, zeCellR G kd ln (fun _ => none) (fun _ => 0) (fun _ => 0)) H1) (hz : H1.size = H.size + 1) (hq : ∀ q : Nat, q < H.size → H1[q]? = H[q]?) : zePic G (zeNew kd ln sl μ) H1 := by
  refine ⟨?_, by rw [hz, h.2]; rfl⟩
  rw [zeW_push (μ := μ) rfl (fun a ha => zeCell_nw ha), zeCell_nwE]
  refine (h.1.kept fun k q hk => ?_).app fun k q hk => ?_
  · obtain ⟨h1, rfl⟩ := zeW_at hk
    exact hq _ (by rw [h.2]; show zeN0 G + k < _; omega)
  · have hz : k < 1 := (List.getElem?_eq_some_iff.mp hk).1
    rw [show k = 0 by omega] at hk
    cases hk
    exact hc
theorem va_S.nw {A : Nat → Prop} {H0 H H1 : Heap} {locs : List Loc} (h : va_S A H0 H locs) (z : H1.size = H.size + 1) (oq : ∀ q : Nat, q < H.size → H1[q]? = H[q]?) : va_S A H0 H1 locs :=
  ⟨by rw [z]; exact Nat.le_succ_of_le h.1, fun q h1 h2 => (oq q (Nat.lt_of_lt_of_le h1 h.1)).trans (h.2.1 q h1 h2), h.2.2⟩
theorem zs_new {own C : String} {T : u_T} {ty0 : Nat → FieldType} {N ci index : Nat} (ho : (zeNam i).cls = own) (hc : zeCl[ci]? = some (C, T, N)) (hin : ∀ w ∈ u_ws C T N, w ∈ zeBT) (hty : ∀ k, k < N → parseFieldDescriptor (T k).2.2.1 = some (ty0 k)) (hcl : Cond.classLink own index C ∈ zeBT) (hins : Cond.instantiable C N ∈ zeBT) (hini : Cond.initialized C ∈ zeBT) (hdf : ∀ j, j < N → vp_V (zeFs G (fun _ => none) (fun _ => 0) 0 (zeFL ci)) j = defaultValue (ty0 j)) (hd : decode (zeCod i) pc = .ok (.new index, 3)) (hn : pc + 3 = n) : zeSnd G i pc (zoNew ci N n) := by
  subst hn
  refine zs_wr (fun L st μ x e => by cases zeNx_i e) fun L st μ pc' L' st' μ' e => ?_
  cases zeNx_i e
  have hlt := zeCl_lt hc
  refine ⟨rfl, zeMon.new _ _ _ _, fun _ hw => ⟨hw.nw (by omega), fun p l e R s m args below meth c Q H locs ls n0 s0 hcx _ _ hcells hslots hn0 hs0 hP hS _ K => ?_⟩⟩
  have hKn := hcx.K.1 ci _ hc
  have e1 : zeN (zeNew (ci + 1) 0 N μ) - n0 = (zeN μ - n0) + 1 := by show zeN μ + 1 - n0 = _; omega
  have e2 : zeSl (zeNew (ci + 1) 0 N μ) - s0 = (zeSl μ - s0) + N := by show zeSl μ + N - s0 = _; omega
  rw [e1] at hcells
  rw [e2] at hslots
  refine W.newcK hcx.1 hcx.2.1 (ho ▸ hcx.own) (hcx.ws _ hcl) (hcx.ws _ hins) (hcx.ws _ hini) rfl hd hcells hslots hKn.2.1 hP.2 fun H1 kC hkC g1 z1 o1 => ?_
  have z1' : H1.size = H.size + 1 := by rw [z1, hP.2]
  have o1' : ∀ q : Nat, q < H.size → H1[q]? = H[q]? := fun q hq => o1 q (by rw [← hP.2]; exact hq)
  have K1 := K H1 locs (hP.nw (kd := ci + 1) (ln := 0) (sl := N) ?_ z1' o1') (hS.nw z1' o1')
  · rw [e1, e2, List.map_cons, zeTr_r G (Nat.le_add_right _ _), show zeAd G (16 + zeN μ) = zeN0 G + zeN μ by unfold zeAd; omega] at K1
    exact K1
  · rw [zeCellR_obj G rfl hlt]
    exact ⟨_, hc, (u_born ty0 hcx.ws hin hKn hkC g1 hty).to fun j hj => (hdf j hj).symm⟩
/-- a new array of ints, longs, bytes, chars or booleans -/
theorem zs_newarray {at_ : ArrayType} {t t0 : Nat} {ty : FieldType} (hat : newarray.typeOf at_ = ty) (ht : t = 40 + t0) (hty : ∀ G : zeG, (zeTY G)[t0]? = some (zeCA G t0, ty)) (hw1 : Cond.arrayClass ty ∈ zeBT) (hdef : ∀ (G : zeG) (cA : ClassId) (N : Nat), zeCellR G t N (fun _ => none) (fun _ => 0) (fun _ => 0) = .inl (zeCA G t0, zeArrR G t0 N (fun _ => none) (fun _ => 0) (fun _ => 0)) ∧ vp_cell cA (zeArrR G t0 N (fun _ => none) (fun _ => 0) (fun _ => 0)) = arrV cA N (fun _ => defaultValue ty)) (hcb : componentBytes ty ≤ 8) (hRA : ∀ (s : State) (cA : ClassId), va_RA s cA ty → s.vm.findClass ("[" ++ ty.toString) = some cA) (ht5 : t < 46) (hd : decode (zeCod i) pc = .ok (.newarray at_, 2)) (hn : pc + 2 = n) : zeSnd G i pc (zoNewa t n) := by
  subst hn
  subst hat
  refine zs_wr (fun L st μ x e => ?_) fun L st μ pc' L' st' μ' e => ?_
  · unfold zoNewa at e
    split at e
    · cases zeNx_i e
    · cases e
  · unfold zoNewa at e
    split at e
    · rename_i x st'
      cases zeNx_i e
      refine ⟨rfl, (zeMon.new _ _ _ _).tr (zeMon.ck _ _), fun hck hw => ⟨hw.nw (by omega), fun p l e R s m args below meth c Q H locs ls n0 s0 hcx _ _ hcells hslots hn0 hs0 hP hS _ K => ?_⟩⟩
      have hb := zeCk_b hck
      rw [Bool.and_eq_true] at hb
      have hx0 : ¬ x < 0 := fun q => by simp [q] at hb
      have hx1 := Nat.le_of_ble_eq_true hb.2
      have e1 : zeN (zeCk (!decide (x < 0) && Nat.ble x.toNatClampNeg 1000000) (zeNew t x.toNatClampNeg x.toNatClampNeg μ)) - n0 = (zeN μ - n0) + 1 := by show zeN μ + 1 - n0 = _; omega
      have e2 : zeSl (zeCk (!decide (x < 0) && Nat.ble x.toNatClampNeg 1000000) (zeNew t x.toNatClampNeg x.toNatClampNeg μ)) - s0 = (zeSl μ - s0) + x.toNatClampNeg := by show zeSl μ + _ - s0 = _; omega
      rw [e1] at hcells
      rw [e2] at hslots
      refine va_newaK hcx.1 hcx.2.1 (hcx.ws _ hw1) rfl hd rfl hx0 rfl (Nat.le_trans (Nat.mul_le_mul hx1 hcb) (by decide)) hcells hslots hP.2 fun H1 cA g1 z1 o1 hAr hNm => ?_
      have z1' : H1.size = H.size + 1 := by rw [z1, hP.2]
      have o1' : ∀ q : Nat, q < H.size → H1[q]? = H[q]? := fun q hq => o1 q (by rw [← hP.2]; exact hq)
      have hcA : cA = zeCA G t0 := Option.some.inj (hNm.symm.trans (hRA s _ (hcx.K.2 t0 _ (hty G)).2))
      have K1 := K H1 locs (hP.nw (kd := t) (ln := x.toNatClampNeg) (sl := x.toNatClampNeg) ?_ z1' o1') (hS.nw z1' o1')
      · rw [e1, e2, List.map_cons, zeTr_r G (Nat.le_add_right _ _), show zeAd G (16 + zeN μ) = zeN0 G + zeN μ by unfold zeAd; omega] at K1
        exact K1
      · rw [(hdef G cA _).1]
        show H1[_]? = some (vp_cell (zeCA G t0) _)
        rw [← hcA, (hdef G cA _).2]
        exact g1
    · cases e
/-- a new array of references to states -/
theorem zs_anewarray {own : String} {index : Nat} (ho : (zeNam i).cls = own) (hcl : Cond.classLink own index "WagerQuiz$State" ∈ zeBT) (hd : decode (zeCod i) pc = .ok (.anewarray index, 3)) (hn : pc + 3 = n) : zeSnd G i pc (zoNewa 45 n) := by
  subst hn
  refine zs_wr (fun L st μ x e => ?_) fun L st μ pc' L' st' μ' e => ?_
  · unfold zoNewa at e
    split at e
    · cases zeNx_i e
    · cases e
  · unfold zoNewa at e
    split at e
    · rename_i x st'
      cases zeNx_i e
      refine ⟨rfl, (zeMon.new _ _ _ _).tr (zeMon.ck _ _), fun hck hw => ⟨hw.nw (by decide), fun p l e R s m args below meth c Q H locs ls n0 s0 hcx _ _ hcells hslots hn0 hs0 hP hS _ K => ?_⟩⟩
      have hb := zeCk_b hck
      rw [Bool.and_eq_true] at hb
      have hx0 : ¬ x < 0 := fun q => by simp [q] at hb
      have hx1 := Nat.le_of_ble_eq_true hb.2
      have e1 : zeN (zeCk (!decide (x < 0) && Nat.ble x.toNatClampNeg 1000000) (zeNew 45 x.toNatClampNeg x.toNatClampNeg μ)) - n0 = (zeN μ - n0) + 1 := by show zeN μ + 1 - n0 = _; omega
      have e2 : zeSl (zeCk (!decide (x < 0) && Nat.ble x.toNatClampNeg 1000000) (zeNew 45 x.toNatClampNeg x.toNatClampNeg μ)) - s0 = (zeSl μ - s0) + x.toNatClampNeg := by show zeSl μ + _ - s0 = _; omega
      rw [e1] at hcells
      rw [e2] at hslots
      refine W.anew hcx.1 hcx.2.1 (ho ▸ hcx.own) (hcx.ws _ hcl) (va_AO.use hcx.sta.2.2.2.2.2.2.1) rfl hd rfl hx0 (Nat.le_trans (Nat.mul_le_mul hx1 (Nat.le_refl 4)) (by decide)) hcells hslots fun cA kA comp f1 f2 f3 f4 => ?_
      have hcA : cA = zeCA G 5 := by
        obtain ⟨kA', comp', k1, k2, k3, k4⟩ := (hcx.K.2 5 _ rfl).2
        first
          | exact Option.some.inj (f1.symm.trans k4)
          | exact Option.some.inj (f2.symm.trans k4)
          | exact Option.some.inj (f3.symm.trans k4)
          | exact Option.some.inj (f4.symm.trans k4)
      subst hcA
      have z1' : (H.push ({ cls := zeCA G 5, slots := Array.replicate x.toNatClampNeg .null, vm := .none } : Cell)).size = H.size + 1 := by simp
      have o1' : ∀ q : Nat, q < H.size → (H.push ({ cls := zeCA G 5, slots := Array.replicate x.toNatClampNeg .null, vm := .none } : Cell))[q]? = H[q]? := fun q hq => by rw [Array.getElem?_push, if_neg (Nat.ne_of_lt hq)]
      have K1 := K _ locs (hP.nw (kd := 45) (ln := x.toNatClampNeg) (sl := x.toNatClampNeg) ?_ z1' o1') (hS.nw z1' o1')
      · rw [e1, e2, List.map_cons, zeTr_r G (Nat.le_add_right _ _), show zeAd G (16 + zeN μ) = zeN0 G + zeN μ by unfold zeAd; omega, ← hP.2] at K1
        exact K1
      · rw [zeCellR_q G rfl, ← hP.2]
        show _ = some (vp_cell (zeCA G 5) _)
        rw [Array.getElem?_push_size, vp_cell_q, ← arrV_new]
        rfl
    · cases e
end ZN
