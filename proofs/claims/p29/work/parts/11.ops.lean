/-! SOUND OPS: putfield, array stores -/
section ZW
variable {G : zeG} {i pc n : Nat}
theorem zeMon.sim (f : Nat → Nat → Int32) (μ : zeM) : zeMon μ (zeSIm f μ) := ⟨fun h => h, Nat.le_refl _, Nat.le_refl _⟩
theorem zeMon.srm (f : Nat → Nat → Option Nat) (μ : zeM) : zeMon μ (zeSRm f μ) := ⟨fun h => h, Nat.le_refl _, Nat.le_refl _⟩
theorem zeMon.slm (f : Nat → Nat → Int64) (μ : zeM) : zeMon μ (zeSLm f μ) := ⟨fun h => h, Nat.le_refl _, Nat.le_refl _⟩
theorem zeCell_im {μ : zeM} {f : Nat → Nat → Int32} {a' : Nat} (h : f a' = zeIm μ a') : zeCell G (zeSIm f μ) a' = zeCell G μ a' := by
  show zeCellR G (zeKd μ a') (zeLn μ a') (zeRm μ a') (f a') (zeLm μ a') = _
  rw [h]
  rfl
theorem zeCell_rm {μ : zeM} {f : Nat → Nat → Option Nat} {a' : Nat} (h : f a' = zeRm μ a') : zeCell G (zeSRm f μ) a' = zeCell G μ a' := by
  show zeCellR G (zeKd μ a') (zeLn μ a') (f a') (zeIm μ a') (zeLm μ a') = _
  rw [h]
  rfl
theorem zeCell_lm {μ : zeM} {f : Nat → Nat → Int64} {a' : Nat} (h : f a' = zeLm μ a') : zeCell G (zeSLm f μ) a' = zeCell G μ a' := by
  show zeCellR G (zeKd μ a') (zeLn μ a') (zeRm μ a') (zeIm μ a') (f a') = _
  rw [h]
  rfl
/-- what the class's table says of its field j -/
def zeFd (i : Nat) (own C ref : String) (T : u_T) (ty0 : Nat → FieldType) (N ci j index : Nat) : Prop := (zeNam i).cls = own ∧ zeCl[ci]? = some (C, T, N) ∧ (∀ w ∈ u_ws C T N, w ∈ zeBT) ∧ (∀ k, k < N → parseFieldDescriptor (T k).2.2.1 = some (ty0 k)) ∧ (∀ a, a < N → ∀ b, b < N → a ≠ b → (T a).2.1 ≠ (T b).2.1) ∧ j < N ∧ Cond.fieldLink own index ref (T j).2.1 (T j).2.2.1 ∈ zeBT ∧ (T j).1 = ref ∧ ((T j).2.2.2 = false ∨ ((T j).2.2.2 = true ∧ (zeNam i).name = "<init>" ∧ (T j).1 = own)) ∧ (zeFL ci).length = N
theorem zw_pf {own C ref : String} {T : u_T} {ty0 : Nat → FieldType} {N ci j index : Nat} (hF : zeFd i own C ref T ty0 N ci j index) (hb : (zeFL ci)[j]? = some false) (hd : decode (zeCod i) pc = .ok (.putfield index, 3)) {μ : zeM} {a : Nat} {x : Int32} (hk : zeKd μ a = ci + 1) (hw : zeWf G μ) (hn : narrow (ty0 j) (.int x) = .int x) (hfit : fits (ty0 j) (.int x) = true)
    {p : Program} {l : Launch} {e : Env} {R : Room} {s : State} {m : MethodId} {args : Array Value} {below : List Frame} {meth : Method} {c : Code} {Q : State → Prop} {H : Heap} {locs : List Loc} {ls : Array Slot} {cells slots : Nat} {rest : List Value}
    (hcx : zeCx G i p s m args meth c) (hP : zePic G μ H) (hS : va_S (zeA G) s.heap H locs)
    (K : ∀ (H1 : Heap) (locs1 : List Loc), zePic G (zeSIm (zeU2 (zeIm μ) a j x) μ) H1 → va_S (zeA G) s.heap H1 locs1 → W p l e R s m args below meth c H1 locs1 cells slots Q (F0 m (pc + 3) ls rest)) : W p l e R s m args below meth c H locs cells slots Q (F0 m pc ls (.int x :: .ref (zeAd G a) :: rest)) := by
  obtain ⟨ho, hc, hin, hty, hnm, hj, hlink, href, hfin, hlen⟩ := hF
  have hlt := zeCl_lt hc
  obtain ⟨h1, h2⟩ := hw.new (a := a) (by omega) (by omega)
  have he := zeW_get (G := G) h1 h2
  rw [zeCell_obj G hk hlt] at he
  refine zw_put hcx.1 hcx.2.1 hcx.ws hin ty0 hty hnm (ho ▸ hcx.own) hcx.K hP.1 (a - 16) he hc j hj (hcx.ws _ hlink) href (hcx.nm ▸ hfin) hn hfit (by rw [zeFs_len, hlen]; exact hj) hd fun H1 g1 g2 g3 => ?_
  refine K H1 _ (hP.put h1 h2 rfl (fun a' ha' => zeCell_im (zeU2_ne ha')) ?_ g2 g3) (hS.put g2 g3 (zeA_ad G a))
  have e1 : zeCell G (zeSIm (zeU2 (zeIm μ) a j x) μ) a = .inr (ci, zeFs G (zeRm μ a) (zeU2 (zeIm μ) a j x a) 0 (zeFL ci)) := zeCellR_obj G hk hlt
  rw [e1, zeU2_eq, zeFs_seti G _ _ _ hb]
  exact g1
theorem zs_pf {own C ref : String} {T : u_T} {ty0 : Nat → FieldType} {N ci j index : Nat} (hF : zeFd i own C ref T ty0 N ci j index) (hb : (zeFL ci)[j]? = some false) (hty : ty0 j = .int) (hd : decode (zeCod i) pc = .ok (.putfield index, 3)) (hn : pc + 3 = n) : zeSnd G i pc (zoPf ci j n) := by
  subst hn
  refine zs_wr (fun L st μ x e => ?_) fun L st μ pc' L' st' μ' e => ?_
  · unfold zoPf at e
    split at e
    · rename_i x a st'
      cases hk : Nat.beq (zeKd μ a) (ci + 1) <;> rw [hk] at e
      · cases e
      · cases zeNx_i e
    · cases e
  · unfold zoPf at e
    split at e
    · rename_i x a st'
      cases hk : Nat.beq (zeKd μ a) (ci + 1) <;> rw [hk] at e
      · cases e
      · cases zeNx_i e
        have hk := Nat.eq_of_beq_eq_true hk
        refine ⟨rfl, zeMon.sim _ _, fun _ hw => ?_⟩
        have hlt := zeCl_lt hF.2.1
        obtain ⟨h1, h2⟩ := hw.new (a := a) (by omega) (by omega)
        refine ⟨hw.im h1 (fun a' ha' => zeU2_ne ha') (fun h => by omega), fun p l e R s m args below meth c Q H locs ls n0 s0 hcx _ _ _ _ _ _ hP hS _ K => ?_⟩
        rw [List.map_cons, List.map_cons, zeTr_r G h1]
        exact zw_pf hF hb hd hk hw (by rw [hty]; rfl) (by rw [hty]; rfl) hcx hP hS K
    · cases e
theorem zs_ps {own C ref : String} {T : u_T} {ty0 : Nat → FieldType} {N ci j index : Nat} {ty : FieldType} (hF : zeFd i own C ref T ty0 N ci j index) (hb : (zeFL ci)[j]? = some false) (hty : ty0 j = ty) (hd : decode (zeCod i) pc = .ok (.putfield index, 3)) (hn : pc + 3 = n) : zeSnd G i pc (zoPs ty ci j n) := by
  subst hn
  refine zs_wr (fun L st μ x e => ?_) fun L st μ pc' L' st' μ' e => ?_
  · unfold zoPs at e
    split at e
    · rename_i x a st'
      cases hk : Nat.beq (zeKd μ a) (ci + 1) <;> rw [hk] at e
      · cases e
      · cases zeNx_i e
    · cases e
  · unfold zoPs at e
    split at e
    · rename_i x a st'
      cases hk : Nat.beq (zeKd μ a) (ci + 1) <;> rw [hk] at e
      · cases e
      · cases zeNx_i e
        have hk := Nat.eq_of_beq_eq_true hk
        refine ⟨rfl, (zeMon.sim _ _).tr (zeMon.ck _ _), fun hck hw => ?_⟩
        have hlt := zeCl_lt hF.2.1
        obtain ⟨h1, h2⟩ := hw.new (a := a) (by omega) (by omega)
        have hnf := zeCk_b hck
        rw [Bool.and_eq_true, decide_eq_true_eq] at hnf
        refine ⟨hw.im h1 (fun a' ha' => zeU2_ne ha') (fun h => by omega), fun p l e R s m args below meth c Q H locs ls n0 s0 hcx _ _ _ _ _ _ hP hS _ K => ?_⟩
        rw [List.map_cons, List.map_cons, zeTr_r G h1]
        exact zw_pf hF hb hd hk hw (by rw [hty]; exact hnf.1) (by rw [hty]; exact hnf.2) hcx hP hS K
    · cases e
theorem zs_pr {own C ref : String} {T : u_T} {ty0 : Nat → FieldType} {N ci j index : Nat} (hF : zeFd i own C ref T ty0 N ci j index) (hb : (zeFL ci)[j]? = some true) (hty : ∀ a, narrow (ty0 j) (.ref a) = .ref a ∧ fits (ty0 j) (.ref a) = true) (hd : decode (zeCod i) pc = .ok (.putfield index, 3)) (hn : pc + 3 = n) : zeSnd G i pc (zoPr ci j n) := by
  subst hn
  refine zs_wr (fun L st μ x e => ?_) fun L st μ pc' L' st' μ' e => ?_
  · unfold zoPr at e
    split at e
    · rename_i b a st'
      cases hk : (Nat.beq (zeKd μ a) (ci + 1) && Nat.ble 16 b) <;> rw [hk] at e
      · cases e
      · cases zeNx_i e
    · cases e
  · unfold zoPr at e
    split at e
    · rename_i b a st'
      cases hk : (Nat.beq (zeKd μ a) (ci + 1) && Nat.ble 16 b) <;> rw [hk] at e
      · cases e
      · cases zeNx_i e
        rw [Bool.and_eq_true] at hk
        have hb16 := Nat.le_of_ble_eq_true hk.2
        have hk := Nat.eq_of_beq_eq_true hk.1
        refine ⟨rfl, zeMon.srm _ _, fun _ hw => ?_⟩
        obtain ⟨ho, hc, hin, hty0, hnm, hj, hlink, href, hfin, hlen⟩ := hF
        have hlt := zeCl_lt hc
        obtain ⟨h1, h2⟩ := hw.new (a := a) (by omega) (by omega)
        refine ⟨hw.rm h1 (fun a' ha' => zeU2_ne ha') (fun j' b' hb' => ?_), fun p l e R s m args below meth c Q H locs ls n0 s0 hcx _ _ _ _ _ _ hP hS _ K => ?_⟩
        · rw [zeU2_eq] at hb'
          dsimp only at hb'
          split at hb'
          · cases hb'
            exact hb16
          · exact hw.2.2.2.1 a j' b' hb' h1
        · rw [List.map_cons, List.map_cons, zeTr_r G h1, zeTr_r G hb16]
          have he := zeW_get (G := G) h1 h2
          rw [zeCell_obj G hk hlt] at he
          refine zw_put hcx.1 hcx.2.1 hcx.ws hin ty0 hty0 hnm (ho ▸ hcx.own) hcx.K hP.1 (a - 16) he hc j hj (hcx.ws _ hlink) href (hcx.nm ▸ hfin) (hty _).1 (hty _).2 (by rw [zeFs_len, hlen]; exact hj) hd fun H1 g1 g2 g3 => ?_
          refine K H1 _ (hP.put h1 h2 rfl (fun a' ha' => zeCell_rm (zeU2_ne ha')) ?_ g2 g3) (hS.put g2 g3 (zeA_ad G a))
          have e1 : zeCell G (zeSRm (zeU2 (zeRm μ) a j (some b)) μ) a = .inr (ci, zeFs G (zeU2 (zeRm μ) a j (some b) a) (zeIm μ a) 0 (zeFL ci)) := zeCellR_obj G hk hlt
          rw [e1, zeU2_eq, zeFs_setr G _ _ _ hb]
          exact g1
    · cases e
/-- a store into an int, byte, char or boolean array -/
theorem zs_Sti {t t0 : Nat} (ht : t = 40 + t0) (h5 : t0 ≠ 5) (h1' : t0 ≠ 1) (h6 : t0 < 6) (hfit : t = 42 → ∀ x, fits .byte (.int (zeNar t x)) = true) (hrow : ∀ (p : Program) (l : Launch) (e : Env) (R : Room) (s : State) (m : MethodId) (args : Array Value) (below : List Frame) (meth : Method) (c : Code) (Q : State → Prop) (H : Heap) (locs : List Loc) (ls : Array Slot) (cells slots : Nat) (a nn : Nat) (f : Nat → Int32) (j x : Int32) (rest : List Value),
      zeCx G i p s m args meth c → H[a]? = some (vp_cell (zeCA G t0) (nn, .inl f)) → vp_in j nn → (∀ H1 : Heap, H1[a]? = some ((vp_cell (zeCA G t0) (nn, .inl f)).setSlot j.toNatClampNeg (.int (zeNar t x))) → H1.size = H.size → (∀ q : Nat, q ≠ a → H1[q]? = H[q]?) → W p l e R s m args below meth c H1 (locs ++ [⟨a, j.toNatClampNeg⟩]) cells slots Q (F0 m n ls rest)) → W p l e R s m args below meth c H locs cells slots Q (F0 m pc ls (.int x :: .int j :: .ref a :: rest))) : zeSnd G i pc (zoSt t n) := by
  refine zs_wr (fun L st μ x e => ?_) fun L st μ pc' L' st' μ' e => ?_
  · unfold zoSt at e
    split at e
    · rename_i x j a st'
      cases hk : Nat.beq (zeKd μ a) t <;> rw [hk] at e
      · cases e
      · cases zeNx_i e
    · cases e
  · unfold zoSt at e
    split at e
    · rename_i x j a st'
      cases hk : Nat.beq (zeKd μ a) t <;> rw [hk] at e
      · cases e
      · cases zeNx_i e
        have hk := Nat.eq_of_beq_eq_true hk
        refine ⟨rfl, (zeMon.sim _ _).tr (zeMon.ck _ _), fun hck hw => ?_⟩
        obtain ⟨h1, h2⟩ := hw.new (a := a) (by omega) (by omega)
        refine ⟨hw.im h1 (fun a' ha' => zeU2_ne ha') (fun h j' => ?_), fun p l e R s m args below meth c Q H locs ls n0 s0 hcx _ _ _ _ _ _ hP hS _ K => ?_⟩
        · rw [zeU2_eq]
          dsimp only
          split
          · exact hfit (by omega) x
          · exact hw.2.1 a (Or.inl h) j'
        · rw [List.map_cons, List.map_cons, List.map_cons, zeTr_r G h1]
          have he := hP.1 (a - 16) _ (zeW_get (G := G) h1 h2)
          rw [zeCell_i G (hk.trans ht) h5 h1'] at he
          refine hrow p l e R s m args below meth c Q H locs ls _ _ (zeAd G a) (zeLn μ a) (zeIm μ a) j x _ hcx he (zeInb_in (zeCk_b hck)) fun H1 g1 g2 g3 => ?_
          refine K H1 _ (hP.put h1 h2 rfl (fun a' ha' => zeCell_im (zeU2_ne ha')) ?_ g2 g3) (hS.put g2 g3 (zeA_ad G a))
          have e1 : zeCell G (zeCk (zeInb j (zeLn μ a)) (zeSIm (zeU2 (zeIm μ) a j.toNatClampNeg (zeNar t x)) μ)) a = .inl (zeCA G t0, zeLn μ a, .inl (zeU2 (zeIm μ) a j.toNatClampNeg (zeNar t x) a)) := zeCellR_i G (hk.trans ht) h5 h1'
          rw [e1]
          show H1[_]? = some (vp_cell _ _)
          rw [g1, zeU2_eq, vp_cell_i, vp_cell_i, arrV_store]
          congr 2
          funext q
          by_cases hq : q = j.toNatClampNeg
          · subst hq
            simp [updV]
          · simp [updV, hq]
    · cases e
theorem zs_iastore (hd : decode (zeCod i) pc = .ok (.iastore, 1)) (hn : pc + 1 = n) : zeSnd G i pc (zoSt 40 n) := by
  subst hn
  refine zs_Sti (t0 := 0) rfl (by decide) (by decide) (by decide) (fun h => by cases h) fun p l e R s m args below meth c Q H locs ls cells slots a nn f j x rest hcx he hin K => ?_
  exact W.iast hcx.1 hcx.2.1 he ((hcx.K.2 0 _ rfl).1 nn (fun j => .int (f j))) (fun q => by cases q) (by show ¬ (j < 0 ∨ (arrV _ _ _).slots.size ≤ _); rw [arrV_size]; exact hin) rfl rfl hd K
theorem zs_castore (hd : decode (zeCod i) pc = .ok (.castore, 1)) (hn : pc + 1 = n) : zeSnd G i pc (zoSt 43 n) := by
  subst hn
  refine zs_Sti (t0 := 3) rfl (by decide) (by decide) (by decide) (fun h => by cases h) fun p l e R s m args below meth c Q H locs ls cells slots a nn f j x rest hcx he hin K => ?_
  exact W.cast hcx.1 hcx.2.1 he ((hcx.K.2 3 _ rfl).1 nn (fun j => .int (f j))) (fun q => by cases q) (by show ¬ (j < 0 ∨ (arrV _ _ _).slots.size ≤ _); rw [arrV_size]; exact hin) rfl rfl hd K
theorem zs_bastoreZ (hd : decode (zeCod i) pc = .ok (.bastore, 1)) (hn : pc + 1 = n) : zeSnd G i pc (zoSt 44 n) := by
  subst hn
  refine zs_Sti (t0 := 4) rfl (by decide) (by decide) (by decide) (fun h => by cases h) fun p l e R s m args below meth c Q H locs ls cells slots a nn f j x rest hcx he hin K => ?_
  exact W.zast hcx.1 hcx.2.1 he ((hcx.K.2 4 _ rfl).1 nn (fun j => .int (f j))) (fun q => by cases q) (by show ¬ (j < 0 ∨ (arrV _ _ _).slots.size ≤ _); rw [arrV_size]; exact hin) rfl rfl hd K
theorem zs_lastore (hd : decode (zeCod i) pc = .ok (.lastore, 1)) (hn : pc + 1 = n) : zeSnd G i pc (zoLst n) := by
  subst hn
  refine zs_wr (fun L st μ x e => ?_) fun L st μ pc' L' st' μ' e => ?_
  · unfold zoLst at e
    split at e
    · rename_i x j a st'
      cases hk : Nat.beq (zeKd μ a) 41 <;> rw [hk] at e
      · cases e
      · cases zeNx_i e
    · cases e
  · unfold zoLst at e
    split at e
    · rename_i x j a st'
      cases hk : Nat.beq (zeKd μ a) 41 <;> rw [hk] at e
      · cases e
      · cases zeNx_i e
        have hk := Nat.eq_of_beq_eq_true hk
        refine ⟨rfl, (zeMon.slm _ _).tr (zeMon.ck _ _), fun hck hw => ?_⟩
        obtain ⟨h1, h2⟩ := hw.new (a := a) (by omega) (by omega)
        refine ⟨hw, fun p l e R s m args below meth c Q H locs ls n0 s0 hcx _ _ _ _ _ _ hP hS _ K => ?_⟩
        rw [List.map_cons, List.map_cons, List.map_cons, zeTr_r G h1]
        have he := hP.1 (a - 16) _ (zeW_get (G := G) h1 h2)
        rw [zeCell_l G hk] at he
        refine W.last hcx.1 hcx.2.1 he ((hcx.K.2 1 _ rfl).1 (zeLn μ a) (fun j => .long (zeLm μ a j))) (fun q => by cases q) (by show ¬ (j < 0 ∨ (arrV _ _ _).slots.size ≤ _); rw [arrV_size]; exact zeInb_in (zeCk_b hck)) rfl rfl hd fun H1 g1 g2 g3 => ?_
        refine K H1 _ (hP.put h1 h2 rfl (fun a' ha' => zeCell_lm (zeU2_ne ha')) ?_ g2 g3) (hS.put g2 g3 (zeA_ad G a))
        have e1 : zeCell G (zeCk (zeInb j (zeLn μ a)) (zeSLm (zeU2 (zeLm μ) a j.toNatClampNeg x) μ)) a = .inl (zeCA G 1, zeLn μ a, .inr (.inl (zeU2 (zeLm μ) a j.toNatClampNeg x a))) := zeCellR_l G hk
        rw [e1]
        show H1[_]? = some (vp_cell _ _)
        rw [g1, zeU2_eq, vp_cell_l, vp_cell_l, arrV_store]
        congr 2
        funext q
        by_cases hq : q = j.toNatClampNeg
        · subst hq
          simp [updV]
        · simp [updV, hq]
    · cases e
theorem zs_aastore {T : u_T} {N ci : Nat} (hc : zeCl[ci]? = some ("WagerQuiz$State", T, N)) (hd : decode (zeCod i) pc = .ok (.aastore, 1)) (hn : pc + 1 = n) : zeSnd G i pc (zoAst ci n) := by
  subst hn
  refine zs_wr (fun L st μ x e => ?_) fun L st μ pc' L' st' μ' e => ?_
  · unfold zoAst at e
    split at e
    · rename_i b j a st'
      cases hk : (Nat.beq (zeKd μ a) 45 && (Nat.beq (zeKd μ b) (ci + 1) && Nat.ble 16 b)) <;> rw [hk] at e
      · cases e
      · cases zeNx_i e
    · cases e
  · unfold zoAst at e
    split at e
    · rename_i b j a st'
      cases hk : (Nat.beq (zeKd μ a) 45 && (Nat.beq (zeKd μ b) (ci + 1) && Nat.ble 16 b)) <;> rw [hk] at e
      · cases e
      · cases zeNx_i e
        rw [Bool.and_eq_true, Bool.and_eq_true] at hk
        have hb16 := Nat.le_of_ble_eq_true hk.2.2
        have hkb := Nat.eq_of_beq_eq_true hk.2.1
        have hk := Nat.eq_of_beq_eq_true hk.1
        have hlt := zeCl_lt hc
        refine ⟨rfl, (zeMon.srm _ _).tr (zeMon.ck _ _), fun hck hw => ?_⟩
        obtain ⟨h1, h2⟩ := hw.new (a := a) (by omega) (by omega)
        obtain ⟨b1, b2⟩ := hw.new (a := b) (by omega) (by omega)
        refine ⟨hw.rm h1 (fun a' ha' => zeU2_ne ha') (fun j' b' hb' => ?_), fun p l e R s m args below meth c Q H locs ls n0 s0 hcx _ _ _ _ _ _ hP hS _ K => ?_⟩
        · rw [zeU2_eq] at hb'
          dsimp only at hb'
          split at hb'
          · cases hb'
            exact hb16
          · exact hw.2.2.2.1 a j' b' hb' h1
        · rw [List.map_cons, List.map_cons, List.map_cons, zeTr_r G h1, zeTr_r G hb16]
          have he := hP.1 (a - 16) _ (zeW_get (G := G) h1 h2)
          rw [zeCell_q G hk] at he
          have hbe := hP.1 (b - 16) _ (zeW_get (G := G) b1 b2)
          rw [zeCell_obj G hkb hlt] at hbe
          obtain ⟨r', hr', cellV, g1, g2, g3, -⟩ := hbe
          have hcls := (hcx.K.1 ci _ hc).2
          obtain ⟨kA, comp, k1, k2, k3, -⟩ := (hcx.K.2 5 _ rfl).2
          have hcomp : comp = (zeD G).1 ci := Option.some.inj (k3.symm.trans hcls.1)
          subst hcomp
          obtain ⟨kC, hkC, -⟩ := hcls.2
          have hin := zeInb_in (zeCk_b hck)
          refine W.aast hcx.1 hcx.2.1 he (fun q h => by cases h) (fun h => by cases h) k1 k2 rfl hkC ⟨fun q => hin (Or.inl q), by show _ < (arrV _ _ _).slots.size; rw [arrV_size]; exact Nat.not_le.mp fun q => hin (Or.inr q)⟩ g1 (fun q h => by rw [g3] at h; cases h) (by rw [g2]; exact hkC) (by rw [g2]; exact va_assign hcls) rfl rfl hd fun H1 e1 z oq => ?_
          refine K H1 _ (hP.put h1 h2 rfl (fun a' ha' => zeCell_rm (zeU2_ne ha')) ?_ z oq) (hS.put z oq (zeA_ad G a))
          have e2 : zeCell G (zeCk (zeInb j (zeLn μ a)) (zeSRm (zeU2 (zeRm μ) a j.toNatClampNeg (some b)) μ)) a = .inl (zeCA G 5, zeLn μ a, .inr (.inr (.inr (.inr (fun j' => (zeU2 (zeRm μ) a j.toNatClampNeg (some b) a j').map (zeAd G)))))) := zeCellR_q G hk
          rw [e2]
          show H1[_]? = some (vp_cell _ _)
          rw [e1, zeU2_eq, vp_cell_q, vp_cell_q, arrV_store]
          congr 2
          funext q
          by_cases hq : q = j.toNatClampNeg
          · subst hq
            simp [updV, va_rf]
          · simp [updV, hq]
    · cases e
end ZW
