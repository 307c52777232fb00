/-! SOUND OPS: Math, statics, constants, Object.<init>, arraycopy -/
section ZX
variable {G : zeG} {i pc n : Nat}
theorem zeCats {G : zeG} (hG : zeGv G) : ∀ (st : List Value), ((st.map (zeTr G)).map fun v => v.category).sum ≤ 2 * st.length
  | [] => Nat.le_refl 0
  | v :: l => by
    have h1 := zeCats hG l
    have h2 : (zeTr G v).category ≤ 2 := by rcases lv_cat (zeTr G v) with h | h <;> omega
    simp only [List.map_cons, List.sum_cons, List.length_cons]
    omega
theorem zs_max {own : String} {index : Nat} (ho : (zeNam i).cls = own) (hlink : Cond.methodLink own index Lib.Math.max.name ∈ zeBT) (hstat : Cond.static Lib.Math.max.name ∈ zeBT) (hini : Cond.initialized "java/lang/Math" ∈ zeBT) (hcode : Cond.code Lib.Math.max.name Lib.Math.max.code 2 (some .int) ∈ zeBT) (hdp : 1 ≤ zeDp i) (hlc : 21 ≤ zeLc i) (hd : decode (zeCod i) pc = .ok (.invokestatic index, 3)) (hn : pc + 3 = n) : zeSnd G i pc (zoMax n) := by
  subst hn
  refine zs_st (fun L st μ x e => ?_) fun L st μ pc' L' st' μ' e => ?_
  · unfold zoMax at e
    split at e
    · rename_i y x st'
      cases hk : Nat.ble st'.length 4 <;> rw [hk] at e
      · cases e
      · cases zeNx_i e
    · cases e
  · unfold zoMax at e
    split at e
    · rename_i y x st'
      cases hk : Nat.ble st'.length 4 <;> rw [hk] at e
      · cases e
      · cases zeNx_i e
        have hk := Nat.le_of_ble_eq_true hk
        refine ⟨rfl, true, rfl, fun _ _ p l e R s m args below meth c Q H locs ls cells slots hcx hD hL hc hs _ _ hsz K => ?_⟩
        exact va_mmax hcx.1 hcx.2.1 (hcx.ml.trans hsz.symm) (ho ▸ hcx.own) (hcx.ws _ hlink) (hcx.ws _ hstat) (hcx.ws _ hini) (hcx.ws _ hcode) (by omega) (by have := zeCats hcx.gv st'; omega) hc hs hd K
    · cases e
theorem zs_min {own : String} {index : Nat} (ho : (zeNam i).cls = own) (hlink : Cond.methodLink own index Lib.Math.min.name ∈ zeBT) (hstat : Cond.static Lib.Math.min.name ∈ zeBT) (hini : Cond.initialized "java/lang/Math" ∈ zeBT) (hcode : Cond.code Lib.Math.min.name Lib.Math.min.code 2 (some .int) ∈ zeBT) (hdp : 1 ≤ zeDp i) (hlc : 21 ≤ zeLc i) (hd : decode (zeCod i) pc = .ok (.invokestatic index, 3)) (hn : pc + 3 = n) : zeSnd G i pc (zoMin n) := by
  subst hn
  refine zs_st (fun L st μ x e => ?_) fun L st μ pc' L' st' μ' e => ?_
  · unfold zoMin at e
    split at e
    · rename_i y x st'
      cases hk : Nat.ble st'.length 4 <;> rw [hk] at e
      · cases e
      · cases zeNx_i e
    · cases e
  · unfold zoMin at e
    split at e
    · rename_i y x st'
      cases hk : Nat.ble st'.length 4 <;> rw [hk] at e
      · cases e
      · cases zeNx_i e
        have hk := Nat.le_of_ble_eq_true hk
        refine ⟨rfl, true, rfl, fun _ _ p l e R s m args below meth c Q H locs ls cells slots hcx hD hL hc hs _ _ hsz K => ?_⟩
        exact va_mmin hcx.1 hcx.2.1 (hcx.ml.trans hsz.symm) (ho ▸ hcx.own) (hcx.ws _ hlink) (hcx.ws _ hstat) (hcx.ws _ hini) (hcx.ws _ hcode) (by omega) (by have := zeCats hcx.gv st'; omega) hc hs hd K
    · cases e
theorem zs_nn {off : Int} {t : Nat} (hd : decode (zeCod i) pc = .ok (.ifnonnull off, 3)) (ht : (pc : Int) + off = (t : Int)) : zeSnd G i pc (zoNn t) := by
  refine zs_st (fun L st μ x e => ?_) fun L st μ pc' L' st' μ' e => ?_
  · unfold zoNn at e
    split at e
    · rename_i a st'
      cases hk : Nat.blt 0 (zeKd μ a) <;> rw [hk] at e
      · cases e
      · cases zeNx_i e
    · cases e
  · unfold zoNn at e
    split at e
    · rename_i a st'
      cases hk : Nat.blt 0 (zeKd μ a) <;> rw [hk] at e
      · cases e
      · cases zeNx_i e
        refine ⟨rfl, true, rfl, fun _ hw p l e R s m args below meth c Q H locs ls cells slots hcx hD hL hc hs _ _ hsz K => ?_⟩
        have hk : 0 < zeKd μ a := Nat.le_of_ble_eq_true hk
        have : ∃ t, zeTr G (.ref a) = .ref t := by
          rcases Nat.lt_or_ge a 16 with h | h
          · rw [zeTr_o G h]
            have h1 := (hw.1 a h).1
            rcases (hcx.old a h).2.2.2 with h3 | h3 | h3 | h3
            · omega
            · obtain ⟨t, e1, -⟩ := (hcx.old a h).1 h3
              exact ⟨t, e1⟩
            · obtain ⟨t, e1, -⟩ := (hcx.old a h).2.1 h3
              exact ⟨t, e1⟩
            · obtain ⟨t, r, e1, -⟩ := (hcx.old a h).2.2.1 h3
              exact ⟨t, e1⟩
          · exact ⟨_, zeTr_r G h⟩
        obtain ⟨t0, ht0⟩ := this
        rw [List.map_cons, ht0]
        exact lv_ifnonnull hcx.1 hcx.2.1 hd ht K
    · cases e
theorem zs_obj {own : String} {index : Nat} (ho : (zeNam i).cls = own) (hlink : Cond.methodLink own index Lib.objectInit ∈ zeBT) (hinst : Cond.instanceMethod Lib.objectInit ∈ zeBT) (hcode : Cond.code Lib.objectInit ⟨#[0xb1]⟩ 1 none ∈ zeBT) (hdp : 1 ≤ zeDp i) (hlc : 20 ≤ zeLc i) (hd : decode (zeCod i) pc = .ok (.invokespecial index, 3)) (hn : pc + 3 = n) : zeSnd G i pc (zoObj n) := by
  subst hn
  refine zs_st (fun L st μ x e => ?_) fun L st μ pc' L' st' μ' e => ?_
  · unfold zoObj at e
    split at e
    · rename_i a st'
      cases hk : (Nat.blt 0 (zeKd μ a) && Nat.ble st'.length 4) <;> rw [hk] at e
      · cases e
      · cases zeNx_i e
    · cases e
  · unfold zoObj at e
    split at e
    · rename_i a st'
      cases hk : (Nat.blt 0 (zeKd μ a) && Nat.ble st'.length 4) <;> rw [hk] at e
      · cases e
      · cases zeNx_i e
        refine ⟨rfl, true, rfl, fun _ hw p l e R s m args below meth c Q H locs ls cells slots hcx hD hL hc hs _ _ hsz K => ?_⟩
        rw [Bool.and_eq_true] at hk
        have hk2 := Nat.le_of_ble_eq_true hk.2
        have hk : 0 < zeKd μ a := Nat.le_of_ble_eq_true hk.1
        have : ∃ t, zeTr G (.ref a) = .ref t := by
          rcases Nat.lt_or_ge a 16 with h | h
          · rw [zeTr_o G h]
            have h1 := (hw.1 a h).1
            rcases (hcx.old a h).2.2.2 with h3 | h3 | h3 | h3
            · omega
            · obtain ⟨t, e1, -⟩ := (hcx.old a h).1 h3
              exact ⟨t, e1⟩
            · obtain ⟨t, e1, -⟩ := (hcx.old a h).2.1 h3
              exact ⟨t, e1⟩
            · obtain ⟨t, r, e1, -⟩ := (hcx.old a h).2.2.1 h3
              exact ⟨t, e1⟩
          · exact ⟨_, zeTr_r G h⟩
        obtain ⟨t0, ht0⟩ := this
        rw [List.map_cons, ht0]
        refine W.objInit hcx.1 hcx.2.1 (ho ▸ hcx.own) (hcx.ws _ hlink) (hcx.ws _ hinst) (hcx.ws _ hcode) rfl (by rw [hcx.ml]; exact hsz) rfl hd (by omega) ?_ K
        have := zeCats hcx.gv st'
        show 2 * 0 + _ + 12 ≤ _
        omega
    · cases e
/-! statics and constants -/
theorem zs_gets {C nm d own : String} {v : Value} {index : Nat} (ho : (zeNam i).cls = own) (hZ : ∀ (s : State), zeSta G s s.heap → va_Z C nm d (zeTr G v) (zeA G) s s.heap) (hlink : Cond.fieldLink own index C nm d ∈ zeBT) (hd : decode (zeCod i) pc = .ok (.getstatic index, 3)) (hn : pc + 3 = n) : zeSnd G i pc (zoK v n) := by
  subst hn
  exact zs_K fun μ rest p l e R s m args below meth c Q H locs ls cells slots hcx _ _ _ _ _ hS _ K => va_gets hcx.1 hcx.2.1 (hZ s hcx.sta) hS (ho ▸ hcx.own) (hcx.ws _ hlink) (fun _ h => h) hd K
theorem zs_getsN {C nm d own host : String} {v : Value} {index : Nat} (ho : (zeNam i).cls = own) (hZ : ∀ (s : State), zeSta G s s.heap → va_Z C nm d (zeTr G v) (zeA G) s s.heap ∧ va_Nw (.fieldLinkNest own index C nm d host) s) (hd : decode (zeCod i) pc = .ok (.getstatic index, 3)) (hn : pc + 3 = n) : zeSnd G i pc (zoK v n) := by
  subst hn
  exact zs_K fun μ rest p l e R s m args below meth c Q H locs ls cells slots hcx _ _ _ _ _ hS _ K => va_getsN hcx.1 hcx.2.1 (hZ s hcx.sta).1 hS (ho ▸ hcx.own) ((hZ s hcx.sta).2.use rfl) (fun _ h => h) hd K
/-! arraycopy of ints, of longs, of bytes out of an old array -/
theorem zeCpOk_of {sp dp k : Int32} {l0 l1 : Nat} (h : zeCpOk sp dp k l0 l1 = true) : ¬ sp < 0 ∧ ¬ dp < 0 ∧ ¬ k < 0 ∧ sp.toNatClampNeg + k.toNatClampNeg ≤ l0 ∧ dp.toNatClampNeg + k.toNatClampNeg ≤ l1 := by
  unfold zeCpOk at h
  rw [Bool.and_eq_true, Bool.and_eq_true, Bool.and_eq_true, Bool.and_eq_true] at h
  obtain ⟨h1, h2, h3, h4, h5⟩ := h
  exact ⟨fun q => by simp [q] at h1, fun q => by simp [q] at h2, fun q => by simp [q] at h3, Nat.le_of_ble_eq_true h4, Nat.le_of_ble_eq_true h5⟩
theorem zeNn {z : Int32} (hz : ¬ z < 0) : z.toInt = (z.toNatClampNeg : Int) := by
  have hz0 : (0 : Int) ≤ z.toInt := by
    have := Int32.not_lt.mp hz
    simpa using Int32.le_iff_toInt_le.mp this
  show z.toInt = ((z.toInt.toNat : Nat) : Int)
  omega
/-- what an arraycopy leaves: the target's cell is another, all else stays -/
theorem zw_copy {p : Program} {l : Launch} {e : Env} {R : Room} {s : State} {m : MethodId} {args : Array Value} {below : List Frame} {meth : Method} {c : Code} {H : Heap} {locs : List Loc} {cells slots : Nat} {Q : State → Prop} {cc : ByteArray} {ls : Array Slot} {rest : List Value}
    (hexec : p.tables.exec = Jvm.exec) (hb : c.code = cc) (hml : c.maxLocals = ls.size) {own : String} {index : Nat} (hown : s.vm.findClass own = some m.cls) (hlink : (Cond.methodLink own index arraycopyName).before args s = true) (hnat : (Cond.native arraycopyName).before args s = true) (hstat : (Cond.static arraycopyName).before args s = true) (hini : (Cond.initialized "java/lang/System").before args s = true)
    {a0 a : Nat} {cs cd cr : Cell} {ty : FieldType} (hc0 : H[a0]? = some cs) (hc1 : H[a]? = some cd) (h0 : s.isArrayOf cs ty) (h1 : s.isArrayOf cd ty) (hk0 : cs.vm ≠ .unknown) (hk1 : cd.vm ≠ .unknown) (hprim : refKind ty = false)
    {sp dp k : Int32} (g1 : ¬ sp < 0) (g2 : ¬ dp < 0) (g3 : ¬ k < 0) (g4 : sp.toNatClampNeg + k.toNatClampNeg ≤ cs.slots.size) (g5 : dp.toNatClampNeg + k.toNatClampNeg ≤ cd.slots.size) (hfit : ∀ j, j < k.toNatClampNeg → fits ty (cs.slots.getD (sp.toNatClampNeg + j) .null) = true ∧ ∀ b, cs.slots.getD (sp.toNatClampNeg + j) .null ≠ .ref b) (hcr : copied cs cd sp dp k = cr)
    (hframes : 1 ≤ R.frames) (hlocals : (rest.map fun v => v.category).sum + (nativeFrameWords "java/lang/System" "arraycopy" 5 + 11) ≤ R.locals) (hdg : decode cc pc = .ok (.invokestatic index, 3))
    (kk : ∀ (H1 : Heap) (locs1 : List Loc), H1[a]? = some cr → H1.size = H.size → (∀ q : Nat, q ≠ a → H1[q]? = H[q]?) → (∀ q ∈ locs1, q ∈ locs ∨ q.base = a) → W p l e R s m args below meth c H1 locs1 cells slots Q (F0 m (pc + 3) ls rest)) : W p l e R s m args below meth c H locs cells slots Q (F0 m pc ls (.int k :: .int dp :: .ref a :: .int sp :: .ref a0 :: rest)) := by
  subst hcr
  intro T hT X
  obtain ⟨u0, k0, hkk0, cm0, hkd0⟩ := h0
  obtain ⟨u1, k1, hkk1, cm1, hkd1⟩ := h1
  obtain ⟨vm', X', step⟩ := X.arraycopy hexec hown hlink hnat hstat hini (src := a0) (dst := a) (cs := cs) (cd := cd) (srcPos := sp) (destPos := dp) (n := k) (by rw [hT]; exact hc0) (by rw [hT]; exact hc1)
    u0 u1 hk0 hk1 hkk0 hkk1 hkd0 hkd1 (by simp [hprim]) g1 g2 g3
    (by rw [zeNn g1, zeNn g3]; omega)
    (by rw [zeNn g2, zeNn g3]; omega)
    (fun vm₁ _ j hj => ⟨(hfit j hj).1, by
      have := (hfit j hj).2
      cases hv : cs.slots.getD (sp.toNatClampNeg + j) .null <;> first | trivial | (rw [hv] at this; exact absurd rfl (this _))⟩)
    (g := F0 m pc ls (.int k :: .int dp :: .ref a :: .int sp :: .ref a0 :: rest)) rfl (by rw [hml]) (rest := rest) rfl (by rw [hb]; exact hdg) hframes (by show 2 * 0 + _ + _ ≤ _; omega)
  have hl : a < H.size := (Array.getElem?_eq_some_iff.mp hc1).1
  have hheap : ((T.setVm vm').setCell a (copied cs cd sp dp k)).heap = H.setIfInBounds a (copied cs cd sp dp k) := by rw [← hT]; rfl
  obtain ⟨t, a1, b1⟩ := kk _ _ (show (H.setIfInBounds a _)[a]? = some _ by simp [Array.getElem?_setIfInBounds, hl]) (by simp) (fun q hq => by simp [Array.getElem?_setIfInBounds, Ne.symm hq]) (fun q hq => by
      rcases List.mem_append.mp hq with h | h
      · exact Or.inl h
      · obtain ⟨z, -, hz⟩ := List.mem_map.mp h
        rw [← hz]
        exact Or.inr rfl) _ hheap X'
  exact ⟨t, step t a1, b1⟩
theorem va_S.put' {A : Nat → Prop} {H0 H H1 : Heap} {locs locs1 : List Loc} {a : Nat} (h : va_S A H0 H locs) (z : H1.size = H.size) (oq : ∀ q : Nat, q ≠ a → H1[q]? = H[q]?) (ha : A a) (hl : ∀ q ∈ locs1, q ∈ locs ∨ q.base = a) : va_S A H0 H1 locs1 := by
  refine ⟨by rw [z]; exact h.1, fun q h1 h2 => ?_, fun q hq => ?_⟩
  · rw [oq q (fun e => h2 (by rw [e]; exact ha))]
    exact h.2.1 q h1 h2
  · rcases hl q hq with h1 | h1
    · exact h.2.2 q h1
    · rw [h1]
      exact ha
theorem zeCpy_ne {α : Type} {f : Nat → Nat → α} {a0 sp a dp k a' : Nat} (h : a' ≠ a) : zeCpy f a0 sp a dp k a' = f a' := by
  funext j
  simp [zeCpy, h]
theorem zeCpy_eq {α : Type} (f : Nat → Nat → α) (a0 sp a dp k : Nat) : zeCpy f a0 sp a dp k a = va_cpy (f a0) (f a) sp dp k := by
  funext j
  simp [zeCpy, va_cpy]
theorem zs_copyI {own : String} {index t t0 : Nat} {ty : FieldType} (ht : t = 40 + t0) (h5 : t0 ≠ 5) (h1' : t0 ≠ 1) (h6 : t0 < 6) (hty : ∀ G : zeG, (zeTY G)[t0]? = some (zeCA G t0, ty)) (hprim : refKind ty = false) (hft : ∀ (μ : zeM), zeWf G μ → ∀ a, zeKd μ a = t → ∀ j, fits ty (.int (zeIm μ a j)) = true)
    (ho : (zeNam i).cls = own) (hlink : Cond.methodLink own index arraycopyName ∈ zeBT) (hnat : Cond.native arraycopyName ∈ zeBT) (hstat : Cond.static arraycopyName ∈ zeBT) (hini : Cond.initialized "java/lang/System" ∈ zeBT) (hdp : 1 ≤ zeDp i) (hlc : 30 ≤ zeLc i) (hd : decode (zeCod i) pc = .ok (.invokestatic index, 3)) (hn : pc + 3 = n) : zeSnd G i pc (zoCp t n) := by
  subst hn
  refine zs_wr (fun L st μ x e => ?_) fun L st μ pc' L' st' μ' e => ?_
  · unfold zoCp at e
    split at e
    · rename_i k dp a sp a0 st'
      cases hk : (Nat.beq (zeKd μ a) t && (Nat.beq (zeKd μ a0) t && Nat.ble st'.length 4)) <;> rw [hk] at e
      · cases e
      · cases zeNx_i e
    · cases e
  · unfold zoCp at e
    split at e
    · rename_i k dp a sp a0 st'
      cases hk : (Nat.beq (zeKd μ a) t && (Nat.beq (zeKd μ a0) t && Nat.ble st'.length 4)) <;> rw [hk] at e
      · cases e
      · cases zeNx_i e
        rw [Bool.and_eq_true, Bool.and_eq_true] at hk
        have hk4 := Nat.le_of_ble_eq_true hk.2.2
        have hk0 := Nat.eq_of_beq_eq_true hk.2.1
        have hk := Nat.eq_of_beq_eq_true hk.1
        refine ⟨rfl, (zeMon.sim _ _).tr (zeMon.ck _ _), fun hck hw => ?_⟩
        obtain ⟨h1, h2⟩ := hw.new (a := a) (by omega) (by omega)
        obtain ⟨b1, b2⟩ := hw.new (a := a0) (by omega) (by omega)
        obtain ⟨g1, g2, g3, g4, g5⟩ := zeCpOk_of (zeCk_b hck)
        refine ⟨hw.im h1 (fun a' ha' => zeCpy_ne ha') (fun h j => ?_), fun p l e R s m args below meth c Q H locs ls n0 s0 hcx hD hL _ _ _ _ hP hS hsz K => ?_⟩
        · have hw2 := hw.2.1
          rw [zeCpy_eq]
          unfold va_cpy
          split
          · exact hw2 a0 (Or.inl (by omega)) _
          · exact hw2 a (Or.inl h) j
        · simp only [List.map_cons, zeTr_i]
          rw [zeTr_r G h1, zeTr_r G b1]
          have he := hP.1 (a - 16) _ (zeW_get (G := G) h1 h2)
          have he0 := hP.1 (a0 - 16) _ (zeW_get (G := G) b1 b2)
          rw [zeCell_i G (hk.trans ht) h5 h1'] at he
          rw [zeCell_i G (hk0.trans ht) h5 h1'] at he0
          have hA := (hcx.K.2 t0 _ (hty G)).1
          refine zw_copy (cr := vp_cell (zeCA G t0) (zeLn μ a, .inl (va_cpy (zeIm μ a0) (zeIm μ a) sp.toNatClampNeg dp.toNatClampNeg k.toNatClampNeg))) hcx.1 hcx.2.1 (hcx.ml.trans hsz.symm) (ho ▸ hcx.own) (hcx.ws _ hlink) (hcx.ws _ hnat) (hcx.ws _ hstat) (hcx.ws _ hini) he0 he (hA _ (fun j => .int (zeIm μ a0 j))) (hA _ (fun j => .int (zeIm μ a j))) (fun h => by cases h) (fun h => by cases h) hprim g1 g2 g3 (by show _ ≤ (arrV _ _ _).slots.size; rw [arrV_size]; exact g4) (by show _ ≤ (arrV _ _ _).slots.size; rw [arrV_size]; exact g5) (fun j hj => ?_) (va_copied (fun z => .int z) _ _ (zeIm μ a0) (zeIm μ a) g4) (by omega) (by have := zeCats hcx.gv st'; show _ + (5 + 2 + 11) ≤ _; omega) hd fun H1 locs1 e1 z oq hl => ?_
          · have e : (vp_cell (zeCA G t0) (zeLn μ a0, .inl (zeIm μ a0))).slots.getD (sp.toNatClampNeg + j) .null = .int (zeIm μ a0 (sp.toNatClampNeg + j)) := by
              show (arrV _ _ (fun j => .int (zeIm μ a0 j))).slots.getD _ _ = _
              rw [Array.getD_eq_getD_getElem?, arrV_read _ _ (by omega)]
              rfl
            rw [e]
            exact ⟨hft μ hw a0 hk0 _, fun b h => by cases h⟩
          · refine K H1 _ (hP.put h1 h2 rfl (fun a' ha' => zeCell_im (zeCpy_ne ha')) ?_ z oq) (hS.put' z oq (zeA_ad G a) hl)
            have e2 : zeCell G (zeCk (zeCpOk sp dp k (zeLn μ a0) (zeLn μ a)) (zeSIm (zeCpy (zeIm μ) a0 sp.toNatClampNeg a dp.toNatClampNeg k.toNatClampNeg) μ)) a = .inl (zeCA G t0, zeLn μ a, .inl (zeCpy (zeIm μ) a0 sp.toNatClampNeg a dp.toNatClampNeg k.toNatClampNeg a)) := zeCellR_i G (hk.trans ht) h5 h1'
            rw [e2, zeCpy_eq]
            exact e1
    · cases e
theorem zs_copyL {own : String} {index : Nat} (ho : (zeNam i).cls = own) (hlink : Cond.methodLink own index arraycopyName ∈ zeBT) (hnat : Cond.native arraycopyName ∈ zeBT) (hstat : Cond.static arraycopyName ∈ zeBT) (hini : Cond.initialized "java/lang/System" ∈ zeBT) (hdp : 1 ≤ zeDp i) (hlc : 30 ≤ zeLc i) (hd : decode (zeCod i) pc = .ok (.invokestatic index, 3)) (hn : pc + 3 = n) : zeSnd G i pc (zoCpL n) := by
  subst hn
  refine zs_wr (fun L st μ x e => ?_) fun L st μ pc' L' st' μ' e => ?_
  · unfold zoCpL at e
    split at e
    · rename_i k dp a sp a0 st'
      cases hk : (Nat.beq (zeKd μ a) 41 && (Nat.beq (zeKd μ a0) 41 && Nat.ble st'.length 4)) <;> rw [hk] at e
      · cases e
      · cases zeNx_i e
    · cases e
  · unfold zoCpL at e
    split at e
    · rename_i k dp a sp a0 st'
      cases hk : (Nat.beq (zeKd μ a) 41 && (Nat.beq (zeKd μ a0) 41 && Nat.ble st'.length 4)) <;> rw [hk] at e
      · cases e
      · cases zeNx_i e
        rw [Bool.and_eq_true, Bool.and_eq_true] at hk
        have hk4 := Nat.le_of_ble_eq_true hk.2.2
        have hk0 := Nat.eq_of_beq_eq_true hk.2.1
        have hk := Nat.eq_of_beq_eq_true hk.1
        refine ⟨rfl, (zeMon.slm _ _).tr (zeMon.ck _ _), fun hck hw => ?_⟩
        obtain ⟨h1, h2⟩ := hw.new (a := a) (by omega) (by omega)
        obtain ⟨b1, b2⟩ := hw.new (a := a0) (by omega) (by omega)
        obtain ⟨g1, g2, g3, g4, g5⟩ := zeCpOk_of (zeCk_b hck)
        refine ⟨hw, fun p l e R s m args below meth c Q H locs ls n0 s0 hcx hD hL _ _ _ _ hP hS hsz K => ?_⟩
        · simp only [List.map_cons, zeTr_i]
          rw [zeTr_r G h1, zeTr_r G b1]
          have he := hP.1 (a - 16) _ (zeW_get (G := G) h1 h2)
          have he0 := hP.1 (a0 - 16) _ (zeW_get (G := G) b1 b2)
          rw [zeCell_l G hk] at he
          rw [zeCell_l G hk0] at he0
          have hA := (hcx.K.2 1 _ rfl).1
          refine zw_copy (cr := vp_cell (zeCA G 1) (zeLn μ a, .inr (.inl (va_cpy (zeLm μ a0) (zeLm μ a) sp.toNatClampNeg dp.toNatClampNeg k.toNatClampNeg)))) hcx.1 hcx.2.1 (hcx.ml.trans hsz.symm) (ho ▸ hcx.own) (hcx.ws _ hlink) (hcx.ws _ hnat) (hcx.ws _ hstat) (hcx.ws _ hini) he0 he (hA _ (fun j => .long (zeLm μ a0 j))) (hA _ (fun j => .long (zeLm μ a j))) (fun h => by cases h) (fun h => by cases h) rfl g1 g2 g3 (by show _ ≤ (arrV _ _ _).slots.size; rw [arrV_size]; exact g4) (by show _ ≤ (arrV _ _ _).slots.size; rw [arrV_size]; exact g5) (fun j hj => ?_) (va_copied (fun z => .long z) _ _ (zeLm μ a0) (zeLm μ a) g4) (by omega) (by have := zeCats hcx.gv st'; show _ + (5 + 2 + 11) ≤ _; omega) hd fun H1 locs1 e1 z oq hl => ?_
          · have e : (vp_cell (zeCA G 1) (zeLn μ a0, .inr (.inl (zeLm μ a0)))).slots.getD (sp.toNatClampNeg + j) .null = .long (zeLm μ a0 (sp.toNatClampNeg + j)) := by
              show (arrV _ _ (fun j => .long (zeLm μ a0 j))).slots.getD _ _ = _
              rw [Array.getD_eq_getD_getElem?, arrV_read _ _ (by omega)]
              rfl
            rw [e]
            exact ⟨rfl, fun b h => by cases h⟩
          · refine K H1 _ (hP.put h1 h2 rfl (fun a' ha' => zeCell_lm (zeCpy_ne ha')) ?_ z oq) (hS.put' z oq (zeA_ad G a) hl)
            have e2 : zeCell G (zeCk (zeCpOk sp dp k (zeLn μ a0) (zeLn μ a)) (zeSLm (zeCpy (zeLm μ) a0 sp.toNatClampNeg a dp.toNatClampNeg k.toNatClampNeg) μ)) a = .inl (zeCA G 1, zeLn μ a, .inr (.inl (zeCpy (zeLm μ) a0 sp.toNatClampNeg a dp.toNatClampNeg k.toNatClampNeg a))) := zeCellR_l G hk
            rw [e2, zeCpy_eq]
            exact e1
    · cases e
end ZX
