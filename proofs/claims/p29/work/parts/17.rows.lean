/-! the ops by the names of their instructions -/
abbrev zfiadd : Int32 → Int32 → Int32 := fun x y => x + y
abbrev zfisub : Int32 → Int32 → Int32 := fun x y => x - y
abbrev zfimul : Int32 → Int32 → Int32 := fun x y => x * y
abbrev zfiand : Int32 → Int32 → Int32 := fun x y => x &&& y
abbrev zfior : Int32 → Int32 → Int32 := fun x y => x ||| y
abbrev zfixor : Int32 → Int32 → Int32 := fun x y => x ^^^ y
abbrev zfishl : Int32 → Int32 → Int32 := fun x y => x <<< (y &&& 31)
abbrev zfishr : Int32 → Int32 → Int32 := fun x y => x >>> (y &&& 31)
abbrev zfiushr : Int32 → Int32 → Int32 := fun x y => (x.toUInt32 >>> (y.toUInt32 &&& Int32.toUInt32 31)).toInt32
abbrev zfidiv : Int32 → Int32 → Int32 := fun x y => x / y
abbrev zfirem : Int32 → Int32 → Int32 := fun x y => x - x / y * y
abbrev zfineg : Int32 → Int32 := fun x => -x
abbrev zfi2c : Int32 → Int32 := fun x => (x.toUInt32 % 65536).toInt32
abbrev zfi2b : Int32 → Int32 := fun x => x.toInt8.toInt32
abbrev zfland : Int64 → Int64 → Int64 := fun x y => x &&& y
abbrev zflor : Int64 → Int64 → Int64 := fun x y => x ||| y
abbrev zfladd : Int64 → Int64 → Int64 := fun x y => x + y
abbrev zflmul : Int64 → Int64 → Int64 := fun x y => x * y
abbrev zflshl : Int64 → Int32 → Int64 := fun x y => x <<< (y.toInt64 &&& 63)
abbrev zflshr : Int64 → Int32 → Int64 := fun x y => x >>> (y.toInt64 &&& 63)
section ZI
variable {G : zeG} {i pc n : Nat}
theorem zs_iconst {c : Int} {v : Int32} (hd : decode (zeCod i) pc = .ok (.iconst c, 1)) (hv : Int32.ofInt c = v) (hn : pc + 1 = n) : zeSnd G i pc (zoIc v n) := by
  subst hn
  exact zs_Ic fun μ rest p l e R s m args below meth c Q H locs ls cells slots hcx _ _ _ _ _ _ _ K => lv_iconst hcx.1 hcx.2.1 hd hv K
theorem zs_bipush {c : Int} {v : Int32} (hd : decode (zeCod i) pc = .ok (.bipush c, 2)) (hv : (Int8.ofInt c).toInt32 = v) (hn : pc + 2 = n) : zeSnd G i pc (zoIc v n) := by
  subst hn
  exact zs_Ic fun μ rest p l e R s m args below meth c Q H locs ls cells slots hcx _ _ _ _ _ _ _ K => lv_bipush hcx.1 hcx.2.1 hd hv K
theorem zs_sipush {c : Int} {v : Int32} (hd : decode (zeCod i) pc = .ok (.sipush c, 3)) (hv : (Int16.ofInt c).toInt32 = v) (hn : pc + 3 = n) : zeSnd G i pc (zoIc v n) := by
  subst hn
  exact zs_Ic fun μ rest p l e R s m args below meth c Q H locs ls cells slots hcx _ _ _ _ _ _ _ K => lv_sipush hcx.1 hcx.2.1 hd hv K
theorem zs_lconst {c : Fin 2} {v : Int64} (hd : decode (zeCod i) pc = .ok (.lconst c, 1)) (hv : Int64.ofNat (c : Nat) = v) (hn : pc + 1 = n) : zeSnd G i pc (zoLc v n) := by
  subst hn
  exact zs_Lc fun μ rest p l e R s m args below meth c Q H locs ls cells slots hcx _ _ _ _ _ _ _ K => lv_lconst hcx.1 hcx.2.1 hd hv K
theorem zs_ldc {own : String} {index : Nat} {v : Int32} (ho : (zeNam i).cls = own) (hw : Cond.constant own index v ∈ zeBT) (hd : decode (zeCod i) pc = .ok (.ldc index, 2)) (hn : pc + 2 = n) : zeSnd G i pc (zoIc v n) := by
  subst hn
  exact zs_Ic fun μ rest p l e R s m args below meth c Q H locs ls cells slots hcx _ _ _ _ _ _ _ K => lv_ldc hcx.1 hcx.2.1 (ho ▸ hcx.own) (hcx.ws _ hw) hd K
theorem zs_ldcw {own : String} {index : Nat} {v : Int32} (ho : (zeNam i).cls = own) (hw : Cond.constant own index v ∈ zeBT) (hd : decode (zeCod i) pc = .ok (.ldc_w index, 3)) (hn : pc + 3 = n) : zeSnd G i pc (zoIc v n) := by
  subst hn
  exact zs_Ic fun μ rest p l e R s m args below meth c Q H locs ls cells slots hcx _ _ _ _ _ _ _ K => lv_ldcw hcx.1 hcx.2.1 (ho ▸ hcx.own) (hcx.ws _ hw) hd K
theorem zs_iadd (hd : decode (zeCod i) pc = .ok (.iadd, 1)) (hn : pc + 1 = n) : zeSnd G i pc (zoI2 zfiadd n) := by
  subst hn
  exact zs_I2 fun μ rest x y p l e R s m args below meth c Q H locs ls cells slots hcx _ _ _ _ _ _ _ K => lv_iadd hcx.1 hcx.2.1 hd K
theorem zs_isub (hd : decode (zeCod i) pc = .ok (.isub, 1)) (hn : pc + 1 = n) : zeSnd G i pc (zoI2 zfisub n) := by
  subst hn
  exact zs_I2 fun μ rest x y p l e R s m args below meth c Q H locs ls cells slots hcx _ _ _ _ _ _ _ K => lv_isub hcx.1 hcx.2.1 hd K
theorem zs_imul (hd : decode (zeCod i) pc = .ok (.imul, 1)) (hn : pc + 1 = n) : zeSnd G i pc (zoI2 zfimul n) := by
  subst hn
  exact zs_I2 fun μ rest x y p l e R s m args below meth c Q H locs ls cells slots hcx _ _ _ _ _ _ _ K => lv_imul hcx.1 hcx.2.1 hd K
theorem zs_iand (hd : decode (zeCod i) pc = .ok (.iand, 1)) (hn : pc + 1 = n) : zeSnd G i pc (zoI2 zfiand n) := by
  subst hn
  exact zs_I2 fun μ rest x y p l e R s m args below meth c Q H locs ls cells slots hcx _ _ _ _ _ _ _ K => lv_iand hcx.1 hcx.2.1 hd K
theorem zs_ior (hd : decode (zeCod i) pc = .ok (.ior, 1)) (hn : pc + 1 = n) : zeSnd G i pc (zoI2 zfior n) := by
  subst hn
  exact zs_I2 fun μ rest x y p l e R s m args below meth c Q H locs ls cells slots hcx _ _ _ _ _ _ _ K => lv_ior hcx.1 hcx.2.1 hd K
theorem zs_ixor (hd : decode (zeCod i) pc = .ok (.ixor, 1)) (hn : pc + 1 = n) : zeSnd G i pc (zoI2 zfixor n) := by
  subst hn
  exact zs_I2 fun μ rest x y p l e R s m args below meth c Q H locs ls cells slots hcx _ _ _ _ _ _ _ K => lv_ixor hcx.1 hcx.2.1 hd K
theorem zs_ishl (hd : decode (zeCod i) pc = .ok (.ishl, 1)) (hn : pc + 1 = n) : zeSnd G i pc (zoI2 zfishl n) := by
  subst hn
  exact zs_I2 fun μ rest x y p l e R s m args below meth c Q H locs ls cells slots hcx _ _ _ _ _ _ _ K => lv_ishl hcx.1 hcx.2.1 hd K
theorem zs_ishr (hd : decode (zeCod i) pc = .ok (.ishr, 1)) (hn : pc + 1 = n) : zeSnd G i pc (zoI2 zfishr n) := by
  subst hn
  exact zs_I2 fun μ rest x y p l e R s m args below meth c Q H locs ls cells slots hcx _ _ _ _ _ _ _ K => lv_ishr hcx.1 hcx.2.1 hd K
theorem zs_iushr (hd : decode (zeCod i) pc = .ok (.iushr, 1)) (hn : pc + 1 = n) : zeSnd G i pc (zoI2 zfiushr n) := by
  subst hn
  exact zs_I2 fun μ rest x y p l e R s m args below meth c Q H locs ls cells slots hcx _ _ _ _ _ _ _ K => lv_iushr hcx.1 hcx.2.1 hd rfl K
theorem zs_idiv (hd : decode (zeCod i) pc = .ok (.idiv, 1)) (hn : pc + 1 = n) : zeSnd G i pc (zoD2 zfidiv n) := by
  subst hn
  exact zs_D2 fun μ rest x y hy p l e R s m args below meth c Q H locs ls cells slots hcx _ _ _ _ _ _ _ K => lv_idiv hcx.1 hcx.2.1 hd hy K
theorem zs_irem (hd : decode (zeCod i) pc = .ok (.irem, 1)) (hn : pc + 1 = n) : zeSnd G i pc (zoD2 zfirem n) := by
  subst hn
  exact zs_D2 fun μ rest x y hy p l e R s m args below meth c Q H locs ls cells slots hcx _ _ _ _ _ _ _ K => lv_irem hcx.1 hcx.2.1 hd hy K
theorem zs_ineg (hd : decode (zeCod i) pc = .ok (.ineg, 1)) (hn : pc + 1 = n) : zeSnd G i pc (zoI1 zfineg n) := by
  subst hn
  exact zs_I1 fun μ rest x p l e R s m args below meth c Q H locs ls cells slots hcx _ _ _ _ _ _ _ K => lv_ineg hcx.1 hcx.2.1 hd K
theorem zs_i2c (hd : decode (zeCod i) pc = .ok (.i2c, 1)) (hn : pc + 1 = n) : zeSnd G i pc (zoI1 zfi2c n) := by
  subst hn
  exact zs_I1 fun μ rest x p l e R s m args below meth c Q H locs ls cells slots hcx _ _ _ _ _ _ _ K => lv_i2c hcx.1 hcx.2.1 hd rfl K
theorem zs_i2b (hd : decode (zeCod i) pc = .ok (.i2b, 1)) (hn : pc + 1 = n) : zeSnd G i pc (zoI1 zfi2b n) := by
  subst hn
  exact zs_I1 fun μ rest x p l e R s m args below meth c Q H locs ls cells slots hcx _ _ _ _ _ _ _ K => lv_i2b hcx.1 hcx.2.1 hd rfl K
theorem zs_land (hd : decode (zeCod i) pc = .ok (.land, 1)) (hn : pc + 1 = n) : zeSnd G i pc (zoL2 zfland n) := by
  subst hn
  exact zs_L2 fun μ rest x y p l e R s m args below meth c Q H locs ls cells slots hcx _ _ _ _ _ _ _ K => lv_land hcx.1 hcx.2.1 hd K
theorem zs_lor (hd : decode (zeCod i) pc = .ok (.lor, 1)) (hn : pc + 1 = n) : zeSnd G i pc (zoL2 zflor n) := by
  subst hn
  exact zs_L2 fun μ rest x y p l e R s m args below meth c Q H locs ls cells slots hcx _ _ _ _ _ _ _ K => lv_lor hcx.1 hcx.2.1 hd K
theorem zs_ladd (hd : decode (zeCod i) pc = .ok (.ladd, 1)) (hn : pc + 1 = n) : zeSnd G i pc (zoL2 zfladd n) := by
  subst hn
  exact zs_L2 fun μ rest x y p l e R s m args below meth c Q H locs ls cells slots hcx _ _ _ _ _ _ _ K => lv_ladd hcx.1 hcx.2.1 hd K
theorem zs_lmul (hd : decode (zeCod i) pc = .ok (.lmul, 1)) (hn : pc + 1 = n) : zeSnd G i pc (zoL2 zflmul n) := by
  subst hn
  exact zs_L2 fun μ rest x y p l e R s m args below meth c Q H locs ls cells slots hcx _ _ _ _ _ _ _ K => lv_lmul hcx.1 hcx.2.1 hd K
theorem zs_i2l (hd : decode (zeCod i) pc = .ok (.i2l, 1)) (hn : pc + 1 = n) : zeSnd G i pc (zoI2l n) := by
  subst hn
  refine zs_st (fun L st μ x e => ?_) fun L st μ pc' L' st' μ' e => ?_
  · unfold zoI2l at e
    split at e
    · cases zeNx_i e
    · cases e
  · unfold zoI2l at e
    split at e
    · rename_i x st'
      cases zeNx_i e
      exact ⟨rfl, true, rfl, fun _ _ p l e R s m args below meth c Q H locs ls cells slots hcx _ _ _ _ _ _ _ K => lv_i2l hcx.1 hcx.2.1 hd rfl K⟩
    · cases e
theorem zs_ldc2 {own : String} {index : Nat} {v : Int64} (ho : (zeNam i).cls = own) (hw : Cond.constantLong own index v ∈ zeBT) (hd : decode (zeCod i) pc = .ok (.ldc2_w index, 3)) (hn : pc + 3 = n) : zeSnd G i pc (zoLc v n) := by
  subst hn
  exact zs_Lc fun μ rest p l e R s m args below meth c Q H locs ls cells slots hcx _ _ _ _ _ _ _ K => lv_ldc2 hcx.1 hcx.2.1 (ho ▸ hcx.own) (hcx.ws _ hw) hd K
theorem zs_lshl (hd : decode (zeCod i) pc = .ok (.lshl, 1)) (hn : pc + 1 = n) : zeSnd G i pc (zoLsh zflshl n) := by
  subst hn
  exact zs_Lsh fun μ rest x y p l e R s m args below meth c Q H locs ls cells slots hcx _ _ _ _ _ _ _ K => lv_lshl hcx.1 hcx.2.1 hd rfl K
theorem zs_lshr (hd : decode (zeCod i) pc = .ok (.lshr, 1)) (hn : pc + 1 = n) : zeSnd G i pc (zoLsh zflshr n) := by
  subst hn
  exact zs_Lsh fun μ rest x y p l e R s m args below meth c Q H locs ls cells slots hcx _ _ _ _ _ _ _ K => lv_lshr hcx.1 hcx.2.1 hd rfl K
theorem zs_na_int (hw : Cond.arrayClass .int ∈ zeBT) (hd : decode (zeCod i) pc = .ok (.newarray .int, 2)) (hn : pc + 2 = n) : zeSnd G i pc (zoNewa 40 n) :=
  zs_newarray (at_ := .int) (t0 := 0) (ty := .int) rfl rfl (fun _ => rfl) hw (fun _ _ _ => ⟨rfl, rfl⟩) (by decide) (fun s cA h => h) (by decide) hd hn
theorem zs_na_long (hw : Cond.arrayClass .long ∈ zeBT) (hd : decode (zeCod i) pc = .ok (.newarray .long, 2)) (hn : pc + 2 = n) : zeSnd G i pc (zoNewa 41 n) :=
  zs_newarray (at_ := .long) (t0 := 1) (ty := .long) rfl rfl (fun _ => rfl) hw (fun _ _ _ => ⟨rfl, rfl⟩) (by decide) (fun s cA h => h) (by decide) hd hn
theorem zs_na_char (hw : Cond.arrayClass .char ∈ zeBT) (hd : decode (zeCod i) pc = .ok (.newarray .char, 2)) (hn : pc + 2 = n) : zeSnd G i pc (zoNewa 43 n) :=
  zs_newarray (at_ := .char) (t0 := 3) (ty := .char) rfl rfl (fun _ => rfl) hw (fun _ _ _ => ⟨rfl, rfl⟩) (by decide) (fun s cA h => h) (by decide) hd hn
theorem zs_na_boolean (hw : Cond.arrayClass .boolean ∈ zeBT) (hd : decode (zeCod i) pc = .ok (.newarray .boolean, 2)) (hn : pc + 2 = n) : zeSnd G i pc (zoNewa 44 n) :=
  zs_newarray (at_ := .boolean) (t0 := 4) (ty := .boolean) rfl rfl (fun _ => rfl) hw (fun _ _ _ => ⟨rfl, rfl⟩) (by decide) (fun s cA h => h) (by decide) hd hn
theorem zs_cpI {own : String} {index : Nat} (ho : (zeNam i).cls = own) (hlink : Cond.methodLink own index arraycopyName ∈ zeBT) (hnat : Cond.native arraycopyName ∈ zeBT) (hstat : Cond.static arraycopyName ∈ zeBT) (hini : Cond.initialized "java/lang/System" ∈ zeBT) (hdp : 1 ≤ zeDp i) (hlc : 30 ≤ zeLc i) (hd : decode (zeCod i) pc = .ok (.invokestatic index, 3)) (hn : pc + 3 = n) : zeSnd G i pc (zoCp 40 n) :=
  zs_copyI (t0 := 0) (ty := .int) rfl (by decide) (by decide) (by decide) (fun _ => rfl) rfl (fun _ _ _ _ _ => rfl) ho hlink hnat hstat hini hdp hlc hd hn
theorem zeFd_of {own C ref : String} {T : u_T} {ty0 : Nat → FieldType} {N ci j index : Nat} (ho : (zeNam i).cls = own) (hk : zeCl[ci]? = some (C, T, N) ∧ (∀ w ∈ u_ws C T N, w ∈ zeBT) ∧ (∀ k, k < N → parseFieldDescriptor (T k).2.2.1 = some (ty0 k)) ∧ (∀ a, a < N → ∀ b, b < N → a ≠ b → (T a).2.1 ≠ (T b).2.1) ∧ (zeFL ci).length = N) (hj : j < N) (hlink : Cond.fieldLink own index ref (T j).2.1 (T j).2.2.1 ∈ zeBT) (href : (T j).1 = ref) (hfin : (T j).2.2.2 = false ∨ ((T j).2.2.2 = true ∧ (zeNam i).name = "<init>" ∧ (T j).1 = own)) : zeFd i own C ref T ty0 N ci j index :=
  ⟨ho, hk.1, hk.2.1, hk.2.2.1, hk.2.2.2.1, hj, hlink, href, hfin, hk.2.2.2.2⟩
/-- a table of a switch, decided -/
def zeTswB (pc lo : Int) (offs : Array Int) (l : List (Int32 × Nat)) : Bool := (List.range offs.size).all fun j => match l[j]?, offs[j]? with
  | some (k, t), some off => decide (k.toInt = lo + j) && decide (pc + off = (t : Int))
  | _, _ => false
theorem zeTsw {lo : Int} {offs : Array Int} {l : List (Int32 × Nat)} (h : zeTswB pc lo offs l = true) : ∀ j, j < offs.size → ∃ k t off, l[j]? = some (k, t) ∧ k.toInt = lo + j ∧ offs[j]? = some off ∧ (pc : Int) + off = (t : Int) := by
  intro j hj
  have h1 := List.all_eq_true.mp h j (List.mem_range.mpr hj)
  split at h1
  · rename_i k t off e1 e2
    rw [Bool.and_eq_true, decide_eq_true_eq, decide_eq_true_eq] at h1
    exact ⟨k, t, off, e1, h1.1, e2, h1.2⟩
  · cases h1
def zeLswB (pc : Int) : List (Int32 × Nat) → List (Int × Int) → Bool
  | [], [] => true
  | (k, t) :: l, (a, o) :: r => decide (k.toInt = a) && (decide (pc + o = (t : Int)) && zeLswB pc l r)
  | _, _ => false
theorem zeLsw {df : Int} {d : Nat} {x : Int32} (h0 : (pc : Int) + df = (d : Int)) : ∀ (l : List (Int32 × Nat)) (ps : List (Int × Int)), zeLswB pc l ps = true → (pc : Int) + Op.lookupswitch.offset ps df x.toInt = (zeSw x d l : Int)
  | [], [], _ => by simpa [Op.lookupswitch.offset, zeSw] using h0
  | (k, t) :: l, (a, o) :: r, h => by
    simp only [zeLswB, Bool.and_eq_true, decide_eq_true_eq] at h
    unfold zeSw
    by_cases hx : x = k
    · rw [if_pos hx]
      subst hx
      rw [← h.2.1]
      simp [Op.lookupswitch.offset, h.1]
    · rw [if_neg hx, lv_osw hx h.1]
      exact zeLsw h0 l r h.2.2
  | [], _ :: _, h => by cases h
  | _ :: _, [], h => by cases h
theorem zs_lswitch {df : Int} {ps : List (Int × Int)} {len d : Nat} {l : List (Int32 × Nat)} (hd : decode (zeCod i) pc = .ok (.lookupswitch df ps.toArray, len)) (h0 : (pc : Int) + df = (d : Int)) (hp : (ps.zip (ps.drop 1)).all (fun (a, next) => a.1 < next.1) = true) (hl : zeLswB pc l ps = true) : zeSnd G i pc (zoSw l d) := by
  refine zs_Sw fun μ rest x p l' e R s m args below meth c Q H locs ls cells slots hcx _ _ _ _ _ _ _ K => ?_
  exact lv_lookup hcx.1 hcx.2.1 hd hp rfl (zeLsw h0 l ps hl) K
end ZI
