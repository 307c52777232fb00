/-! CALLS, KIND BY KIND; the run -/
section ZK
variable {G : zeG} {i pc n f k : Nat}
theorem zeFix {p : Program} {s : State} {m : MethodId} {args : Array Value} {meth : Method} {c : Code} {own : String} (ho : (zeNam i).cls = own) (hcx : zeCx G i p s m args meth c) : CallFix p m c (zeCod i) (zeNl i) s args zeBT own := ⟨hcx.1, hcx.2.1, hcx.ml, ho ▸ hcx.own, hcx.ws⟩
theorem zeRecv {s : State} {H : Heap} {μ : zeM} {b ci N : Nat} {C : String} {T : u_T} (hw : zeWf G μ) (hK : va_K (zeD G) zeCl (zeTY G) s) (hP : zePic G μ H) (hc : zeCl[ci]? = some (C, T, N)) (hk : zeKd μ b = ci + 1) : zeTr G (.ref b) = .ref (zeAd G b) ∧ ∃ cell : Cell, H[zeAd G b]? = some cell ∧ cell.vm.isStatics = false ∧ s.vm.findClass C = some cell.cls := by
  have hlt := zeCl_lt hc
  obtain ⟨h1, h2⟩ := hw.new (a := b) (by omega) (by omega)
  have he := zeW_get (G := G) h1 h2
  rw [zeCell_obj G hk hlt] at he
  exact ⟨zeTr_r G h1, va_recv hK hP.1 hc he⟩
/-- a static method -/
theorem zs_cs {own : String} {index : Nat} (ho : (zeNam i).cls = own) (hcw : zeCw i f k) (hlen : k ≤ zeNl f) (hlink : Cond.methodLink own index (zeNam f) ∈ zeBT) (hst : Cond.static (zeNam f) ∈ zeBT) (hd : decode (zeCod i) pc = .ok (.invokestatic index, 3)) (hn : pc + 3 = n) : zeSnd G i pc (zoCs f k n) := by
  subst hn
  obtain ⟨hok, hcode, hini, hy, hdp, hlc⟩ := hcw
  refine zs_callS hlen hok fun p l e R s m args below meth c H locs ls cells slots mc ms as μ rest v1 μ1 hcx hD hL hsz hk hM hP hS hrest hroom => ?_
  refine va_runS (zeFix ho hcx) hM (va_cwS k hcx.ws (zeGoods fun w hw => ?_) rfl rfl rfl hy ⟨Nat.le_trans hdp hD, Nat.le_trans hlc hL⟩) ⟨zePc_blind, zePc_at hcx hP hS⟩ rfl (by simp [hk]) hsz rfl (by show 2 * 0 + _ ≤ 8; omega) hd hroom
  simp only [va_wsS, List.cons_append, List.nil_append, List.mem_cons] at hw
  rcases hw with rfl | rfl | rfl | hw
  · exact hlink
  · exact hst
  · exact hini
  · exact (zeWs_good hcode w hw).1
/-- a private static method of a nest mate -/
theorem zs_csN {own host : String} {index : Nat} (ho : (zeNam i).cls = own) (hcw : zeCw i f k) (hlen : k ≤ zeNl f) (hlink : ∀ s : State, zeSta G s s.heap → va_Nw (.methodLinkNest own index (zeNam f) host) s) (hst : Cond.static (zeNam f) ∈ zeBT) (hd : decode (zeCod i) pc = .ok (.invokestatic index, 3)) (hn : pc + 3 = n) : zeSnd G i pc (zoCs f k n) := by
  subst hn
  obtain ⟨hok, hcode, hini, hy, hdp, hlc⟩ := hcw
  refine zs_callS hlen hok fun p l e R s m args below meth c H locs ls cells slots mc ms as μ rest v1 μ1 hcx hD hL hsz hk hM hP hS hrest hroom => ?_
  exact va_runSN (zeFix ho hcx) hM ⟨va_cnB k hcx.ws (zeWs_good hcode) rfl rfl rfl (hlink s hcx.sta) (hcx.ws _ hini) hy ⟨Nat.le_trans hdp hD, Nat.le_trans hlc hL⟩, hcx.ws _ hst, trivial⟩ ⟨zePc_blind, zePc_at hcx hP hS⟩ rfl (by simp [hk]) hsz rfl (by show 2 * 0 + _ ≤ 8; omega) hd hroom
/-- an object's method, of its own class -/
theorem zs_cv {own C : String} {T : u_T} {N ci index : Nat} (ho : (zeNam i).cls = own) (hc : zeCl[ci]? = some (C, T, N)) (hC : (zeNam f).cls = C) (hcw : zeCw i f k) (hlen : k + 1 ≤ zeNl f) (hlink : Cond.methodLink own index (zeNam f) ∈ zeBT) (hin : Cond.instanceMethod (zeNam f) ∈ zeBT) (hsel : Cond.selects C (zeNam f) (zeNam f) ∈ zeBT) (hd : decode (zeCod i) pc = .ok (.invokevirtual index, 3)) (hn : pc + 3 = n) : zeSnd G i pc (zoCv (ci + 1) f k n) := by
  subst hn
  obtain ⟨hok, hcode, hini, hy, hdp, hlc⟩ := hcw
  refine zs_callV hlen hok fun p l e R s m args below meth c H locs ls cells slots mc ms b as μ rest v1 μ1 hcx hD hL hsz hw hkb hk hM hP hS hrest hroom => ?_
  obtain ⟨e1, hrec⟩ := zeRecv hw hcx.K hP hc hkb
  have hat := zePc_at (as := .ref b :: as) (μ := μ) hcx hP hS
  rw [List.map_cons] at hat
  rw [e1] at hat ⊢
  refine va_runV (zeFix ho hcx) hM (cwV k hcx.ws (zeGoods fun w hw => ?_) rfl rfl rfl ⟨hC, hy⟩ ⟨Nat.le_trans hdp hD, Nat.le_trans hlc hL⟩) ⟨zePc_blind, hrec, hat⟩ rfl (by simp [hk]) hsz rfl (by show 2 * 0 + _ ≤ 8; omega) hd hroom
  simp only [wsV, List.cons_append, List.nil_append, List.mem_cons] at hw
  rcases hw with rfl | rfl | rfl | rfl | hw
  · exact hlink
  · exact hin
  · exact hsel
  · exact hC ▸ hini
  · exact (zeWs_good hcode w hw).1
/-- a method of a text constant -/
theorem zs_cvO {own : String} {index : Nat} (ho : (zeNam i).cls = own) (hC : (zeNam f).cls = "java/lang/String") (hcw : zeCw i f k) (hlen : k + 1 ≤ zeNl f) (hlink : Cond.methodLink own index (zeNam f) ∈ zeBT) (hin : Cond.instanceMethod (zeNam f) ∈ zeBT) (hsel : Cond.selects "java/lang/String" (zeNam f) (zeNam f) ∈ zeBT) (hd : decode (zeCod i) pc = .ok (.invokevirtual index, 3)) (hn : pc + 3 = n) : zeSnd G i pc (zoCv 110 f k n) := by
  subst hn
  obtain ⟨hok, hcode, hini, hy, hdp, hlc⟩ := hcw
  refine zs_callV hlen hok fun p l e R s m args below meth c H locs ls cells slots mc ms b as μ rest v1 μ1 hcx hD hL hsz hw hkb hk hM hP hS hrest hroom => ?_
  have b1 : b < 16 := by
    rcases (hw.2.2.1 b (by omega)).2 with h | h <;> omega
  have hk110 := (hw.1 b b1).1
  obtain ⟨t, r, e0, -, -, ⟨cell, q1, q2, q3, q4⟩, -⟩ := (hcx.old b b1).2.2.1 (by omega)
  have e1 : zeTr G (.ref b) = .ref t := (zeTr_o G b1).trans e0
  have hat := zePc_at (as := .ref b :: as) (μ := μ) hcx hP hS
  rw [List.map_cons] at hat
  rw [e1] at hat ⊢
  refine va_runV (zeFix ho hcx) hM (cwV k hcx.ws (zeGoods fun w hw => ?_) rfl rfl rfl ⟨hC, hy⟩ ⟨Nat.le_trans hdp hD, Nat.le_trans hlc hL⟩) ⟨zePc_blind, ⟨cell, by rw [hS.2.1 t (Array.getElem?_eq_some_iff.mp q1).1 q4]; exact q1, q2, q3⟩, hat⟩ rfl (by simp [hk]) hsz rfl (by show 2 * 0 + _ ≤ 8; omega) hd hroom
  simp only [wsV, List.cons_append, List.nil_append, List.mem_cons] at hw
  rcases hw with rfl | rfl | rfl | rfl | hw
  · exact hlink
  · exact hin
  · exact hsel
  · exact hC ▸ hini
  · exact (zeWs_good hcode w hw).1
/-- an inherited method -/
theorem zs_cu {own C : String} {T : u_T} {N ci index : Nat} (ho : (zeNam i).cls = own) (hc : zeCl[ci]? = some (C, T, N)) (hcw : zeCw i f k) (hlen : k + 1 ≤ zeNl f) (hlink : Cond.methodLink own index (zeNam f) ∈ zeBT) (hsame : Cond.sameMethod (zeNam f).cls (zeNam f).cls (zeNam f).name (zeNam f).desc ∈ zeBT) (hin : Cond.instanceMethod (zeNam f) ∈ zeBT) (hsel : Cond.selects C (zeNam f) (zeNam f) ∈ zeBT) (hd : decode (zeCod i) pc = .ok (.invokevirtual index, 3)) (hn : pc + 3 = n) : zeSnd G i pc (zoCv (ci + 1) f k n) := by
  subst hn
  obtain ⟨hok, hcode, hini, hy, hdp, hlc⟩ := hcw
  refine zs_callV hlen hok fun p l e R s m args below meth c H locs ls cells slots mc ms b as μ rest v1 μ1 hcx hD hL hsz hw hkb hk hM hP hS hrest hroom => ?_
  obtain ⟨e1, hrec⟩ := zeRecv hw hcx.K hP hc hkb
  have hat := zePc_at (as := .ref b :: as) (μ := μ) hcx hP hS
  rw [List.map_cons] at hat
  rw [e1] at hat ⊢
  refine va_runU (zeFix ho hcx) hM (va_cwU (owner := (zeNam f).cls) (x := zeNam f) k hcx.ws (zeGoods fun w hw => ?_) rfl rfl rfl rfl hy ⟨Nat.le_trans hdp hD, Nat.le_trans hlc hL⟩) ⟨zePc_blind, hrec, hat⟩ rfl (by simp [hk]) hsz rfl (by show 2 * 0 + _ ≤ 8; omega) hd hroom
  simp only [va_wsU, List.cons_append, List.nil_append, List.mem_cons] at hw
  rcases hw with rfl | rfl | rfl | rfl | rfl | hw
  · exact hlink
  · exact hsame
  · exact hsel
  · exact hin
  · exact hini
  · exact (zeWs_good hcode w hw).1
/-- super.m(..) -/
theorem zs_csu {own C : String} {T : u_T} {N ci index : Nat} (ho : (zeNam i).cls = own) (hc : zeCl[ci]? = some (C, T, N)) (hcw : zeCw i f k) (hlen : k + 1 ≤ zeNl f) (hno : (zeNam f).name ≠ "<init>") (hlink : Cond.methodLink own index (zeNam f) ∈ zeBT) (hsame : Cond.sameMethod (zeNam f).cls (zeNam f).cls (zeNam f).name (zeNam f).desc ∈ zeBT) (hsup : Cond.superclass own (zeNam f).cls ∈ zeBT) (hin : Cond.instanceMethod (zeNam f) ∈ zeBT) (hd : decode (zeCod i) pc = .ok (.invokespecial index, 3)) (hn : pc + 3 = n) : zeSnd G i pc (zoCv (ci + 1) f k n) := by
  subst hn
  obtain ⟨hok, hcode, hini, hy, hdp, hlc⟩ := hcw
  refine zs_callV hlen hok fun p l e R s m args below meth c H locs ls cells slots mc ms b as μ rest v1 μ1 hcx hD hL hsz hw hkb hk hM hP hS hrest hroom => ?_
  obtain ⟨e1, hrec⟩ := zeRecv hw hcx.K hP hc hkb
  have hat := zePc_at (as := .ref b :: as) (μ := μ) hcx hP hS
  rw [List.map_cons] at hat
  rw [e1] at hat ⊢
  refine va_runSU (hcx.K.1 ci _ hc).2 (zeFix ho hcx) hM (va_cwSU k hcx.ws (zeGoods fun w hw => ?_) rfl rfl rfl ⟨hno, hy.2.2⟩ ⟨Nat.le_trans hdp hD, Nat.le_trans hlc hL⟩) ⟨zePc_blind, hrec, hat⟩ rfl (by simp [hk]) hsz rfl (by show 2 * 0 + _ ≤ 8; omega) hd hroom
  simp only [va_wsSU, List.cons_append, List.nil_append, List.mem_cons] at hw
  rcases hw with rfl | rfl | rfl | rfl | rfl | hw
  · exact hlink
  · exact hsame
  · exact hsup
  · exact hin
  · exact hini
  · exact (zeWs_good hcode w hw).1
/-- a constructor -/
theorem zs_ci {own C : String} {T : u_T} {N ci index : Nat} (ho : (zeNam i).cls = own) (hc : zeCl[ci]? = some (C, T, N)) (hcw : zeCw i f k) (hlen : k + 1 ≤ zeNl f) (hnm : (zeNam f).name = "<init>") (hrt : zeRt f = none) (hlink : Cond.methodLink own index (zeNam f) ∈ zeBT) (hin : Cond.instanceMethod (zeNam f) ∈ zeBT) (hd : decode (zeCod i) pc = .ok (.invokespecial index, 3)) (hn : pc + 3 = n) : zeSnd G i pc (zoCv (ci + 1) f k n) := by
  subst hn
  obtain ⟨hok, hcode, hini, hy, hdp, hlc⟩ := hcw
  refine zs_callV hlen hok fun p l e R s m args below meth c H locs ls cells slots mc ms b as μ rest v1 μ1 hcx hD hL hsz hw hkb hk hM hP hS hrest hroom => ?_
  obtain ⟨e1, hrec⟩ := zeRecv hw hcx.K hP hc hkb
  have hat := zePc_at (as := .ref b :: as) (μ := μ) hcx hP hS
  rw [List.map_cons] at hat
  rw [e1] at hat ⊢
  have hws : zeWs f = Cond.code (zeNam f) (zeCod f) (zeNl f) none :: zeBT := by unfold zeWs; rw [hrt]
  exact va_runI (zeFix ho hcx) hM (cwI k hcx.ws (zeWs_good hcode) hws rfl rfl (hcx.ws _ hini) (hcx.ws _ hlink) (hcx.ws _ hin) hnm hy ⟨Nat.le_trans hdp hD, Nat.le_trans hlc hL⟩) ⟨zePc_blind, hat⟩ rfl (by simp [hk]) hsz rfl (by show 2 * 0 + _ ≤ 8; omega) hd hroom
/-- a private constructor of a nest mate -/
theorem zs_ciN {own host C : String} {T : u_T} {N ci index : Nat} (ho : (zeNam i).cls = own) (hc : zeCl[ci]? = some (C, T, N)) (hcw : zeCw i f k) (hlen : k + 1 ≤ zeNl f) (hnm : (zeNam f).name = "<init>") (hrt : zeRt f = none) (hlink : ∀ s : State, zeSta G s s.heap → va_Nw (.methodLinkNest own index (zeNam f) host) s) (hin : Cond.instanceMethod (zeNam f) ∈ zeBT) (hd : decode (zeCod i) pc = .ok (.invokespecial index, 3)) (hn : pc + 3 = n) : zeSnd G i pc (zoCv (ci + 1) f k n) := by
  subst hn
  obtain ⟨hok, hcode, hini, hy, hdp, hlc⟩ := hcw
  refine zs_callV hlen hok fun p l e R s m args below meth c H locs ls cells slots mc ms b as μ rest v1 μ1 hcx hD hL hsz hw hkb hk hM hP hS hrest hroom => ?_
  obtain ⟨e1, hrec⟩ := zeRecv hw hcx.K hP hc hkb
  have hat := zePc_at (as := .ref b :: as) (μ := μ) hcx hP hS
  rw [List.map_cons] at hat
  rw [e1] at hat ⊢
  have hws : zeWs f = Cond.code (zeNam f) (zeCod f) (zeNl f) none :: zeBT := by unfold zeWs; rw [hrt]
  exact va_runIN (zeFix ho hcx) hM ⟨va_cnB k hcx.ws (zeWs_good hcode) hws rfl rfl (hlink s hcx.sta) (hcx.ws _ hini) hy ⟨Nat.le_trans hdp hD, Nat.le_trans hlc hL⟩, hnm, hcx.ws _ hin⟩ ⟨zePc_blind, hat⟩ rfl (by simp [hk]) hsz rfl (by show 2 * 0 + _ ≤ 8; omega) hd hroom
end ZK
theorem zeNd_ok {P : Nat → zeOp → Prop} {k : Nat} {a b : Nat → Option zeOp} (ha : ∀ x op, a x = some op → P x op) (hb : ∀ x op, b x = some op → P x op) : ∀ x op, zeNd k a b x = some op → P x op := by
  intro x op h
  unfold zeNd at h
  cases hk : Nat.ble k x <;> rw [hk] at h
  · exact ha x op h
  · exact hb x op h
theorem zeLf_ok {P : Nat → zeOp → Prop} {k : Nat} {o : zeOp} (h : P k o) : ∀ x op, zeLf k (some o) none x = some op → P x op := by
  intro x op h1
  unfold zeLf at h1
  cases hk : Nat.beq x k <;> rw [hk] at h1
  · cases h1
  · have := Nat.eq_of_beq_eq_true hk
    subst this
    cases h1
    exact h
theorem zeCw_of {i f k : Nat} (h : zeMok f ∧ Cond.code (zeNam f) (zeCod f) (zeNl f) (zeRt f) ∈ zeBT ∧ Cond.initialized (zeNam f).cls ∈ zeBT ∧ ((zeNam f).cls ≠ "java/lang/invoke/MethodHandle" ∧ (zeNam f).cls ≠ "java/lang/invoke/VarHandle" ∧ (parseMethodDescriptor (zeNam f).desc).map (fun d => d.parameters.length) = some k)) (h2 : (Nat.ble (zeDp f + 1) (zeDp i) && Nat.ble (8 + (zeNl f + 11) + zeLc f) (zeLc i)) = true) : zeCw i f k := by
  rw [Bool.and_eq_true] at h2
  exact ⟨h.1, h.2.1, h.2.2.1, h.2.2.2, Nat.le_of_ble_eq_true h2.1, Nat.le_of_ble_eq_true h2.2⟩
