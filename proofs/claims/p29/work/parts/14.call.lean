/-! ENDS AND CALLS -/
section ZE
variable {G : zeG} {i pc n : Nat}
/-- an end: the frame before the return, the answer on the stack -/
theorem zs_end {op : zeOp} (hk : decode (zeCod i) pc = .ok (zeRk i, 1)) (h1 : ∀ L st μ x, op L st μ ≠ some (.inl x)) (h2 : ∀ L st μ x, op L st μ ≠ some (.inr (.inr x)))
    (h3 : ∀ L st μ v μ', op L st μ = some (.inr (.inl (v, μ'))) → (v.map (zeTr G)).toList = st.map (zeTr G) ∧ ∃ b, μ' = zeCk b μ ∧ (b = true → zeRok i v)) : zeSnd G i pc op := by
  intro L st μ
  refine ⟨fun pc' L' st' μ' h => absurd h (h1 _ _ _ _), fun v μ' h => ?_, fun j as pc' L' st' μ' h => absurd h (h2 _ _ _ _)⟩
  obtain ⟨e1, b, rfl, e2⟩ := h3 L st μ v μ' h
  refine ⟨zeMon.ck b μ, fun hb hw => ⟨hw, ?_⟩⟩
  intro p l e R s m args below meth c Q n0 s0 hcx hd hl hn0 hs0 hret hc hs H locs ls hP hS hL hN
  rw [← e1]
  exact hret H locs ls pc (e2 (zeCk_b hb)) hk hP hS
theorem zs_ireturn (hr : zeRt i = some .int) (hk : decode (zeCod i) pc = .ok (zeRk i, 1)) : zeSnd G i pc zoRetI := by
  refine zs_end hk (fun L st μ x e => ?_) (fun L st μ x e => ?_) fun L st μ v μ' e => ?_
  · unfold zoRetI at e
    split at e <;> cases e
  · unfold zoRetI at e
    split at e <;> cases e
  · unfold zoRetI at e
    split at e
    · rename_i x
      cases e
      refine ⟨rfl, true, rfl, fun _ => ?_⟩
      unfold zeRok
      rw [hr]
      exact ⟨x, rfl⟩
    · cases e
theorem zs_zreturn {ty : FieldType} (hr : zeRt i = some ty) (hty : ty = .boolean ∨ ty = .char ∨ ty = .byte) (hk : decode (zeCod i) pc = .ok (zeRk i, 1)) : zeSnd G i pc (zoRetS ty) := by
  refine zs_end hk (fun L st μ x e => ?_) (fun L st μ x e => ?_) fun L st μ v μ' e => ?_
  · unfold zoRetS at e
    split at e <;> cases e
  · unfold zoRetS at e
    split at e <;> cases e
  · unfold zoRetS at e
    split at e
    · rename_i x
      cases e
      refine ⟨rfl, _, rfl, fun hb => ?_⟩
      have hb : vp_nar ty x = x := by simpa [zeNok] using hb
      unfold zeRok
      rw [hr]
      rcases hty with rfl | rfl | rfl
      · exact ⟨x, rfl, congrArg Value.int hb⟩
      · exact ⟨x, rfl, congrArg Value.int hb⟩
      · exact ⟨x, rfl, congrArg Value.int hb⟩
    · cases e
theorem zs_lreturn (hr : zeRt i = some .long) (hk : decode (zeCod i) pc = .ok (zeRk i, 1)) : zeSnd G i pc zoRetJ := by
  refine zs_end hk (fun L st μ x e => ?_) (fun L st μ x e => ?_) fun L st μ v μ' e => ?_
  · unfold zoRetJ at e
    split at e <;> cases e
  · unfold zoRetJ at e
    split at e <;> cases e
  · unfold zoRetJ at e
    split at e
    · rename_i x
      cases e
      refine ⟨rfl, true, rfl, fun _ => ?_⟩
      unfold zeRok
      rw [hr]
      exact ⟨x, rfl⟩
    · cases e
theorem zs_areturn {ty : FieldType} (hr : zeRt i = some ty) (hty : (∃ nm, ty = .object nm) ∨ ∃ t, ty = .array t) (hk : decode (zeCod i) pc = .ok (zeRk i, 1)) : zeSnd G i pc zoRetA := by
  refine zs_end hk (fun L st μ x e => ?_) (fun L st μ x e => ?_) fun L st μ v μ' e => ?_
  · unfold zoRetA at e
    split at e
    · rename_i a
      cases hk : Nat.ble 16 a <;> rw [hk] at e <;> cases e
    · cases e
  · unfold zoRetA at e
    split at e
    · rename_i a
      cases hk : Nat.ble 16 a <;> rw [hk] at e <;> cases e
    · cases e
  · unfold zoRetA at e
    split at e
    · rename_i a
      cases hk : Nat.ble 16 a <;> rw [hk] at e
      · cases e
      · cases e
        refine ⟨rfl, true, rfl, fun _ => ?_⟩
        unfold zeRok
        rw [hr]
        rcases hty with ⟨nm, rfl⟩ | ⟨t, rfl⟩
        · exact ⟨a, rfl, Nat.le_of_ble_eq_true hk⟩
        · exact ⟨a, rfl, Nat.le_of_ble_eq_true hk⟩
    · cases e
theorem zs_return (hr : zeRt i = none) (hk : decode (zeCod i) pc = .ok (zeRk i, 1)) : zeSnd G i pc zoRetV := by
  refine zs_end hk (fun L st μ x e => ?_) (fun L st μ x e => ?_) fun L st μ v μ' e => ?_
  · unfold zoRetV at e
    split at e <;> cases e
  · unfold zoRetV at e
    split at e <;> cases e
  · unfold zoRetV at e
    split at e
    · cases e
      refine ⟨rfl, true, rfl, fun _ => ?_⟩
      unfold zeRok
      rw [hr]
    · cases e
/-! a method's contract for one run -/
theorem zeEnt_ll (G : zeG) : ∀ (as : List Value) (k r : Nat), (∀ v ∈ as, zeCat1 v = true) → zeGv G → zeLl G k (as.map some ++ List.replicate r none) = lv_args k (as.map (zeTr G))
  | [], k, r, _, _ => by
    have : ∀ (r k : Nat), zeLl G k (List.replicate r none) = [] := by
      intro r
      induction r with
      | zero => intro k; rfl
      | succ r ih => intro k; exact ih (k + 1)
    exact this r k
  | v :: l, k, r, h, hG => by
    have h1 := zeTr_cat hG (h v List.mem_cons_self)
    show (k, zeTr G v) :: zeLl G (k + 1) _ = (k, zeTr G v) :: lv_args (if (zeTr G v).category = 2 then k + 2 else k + 1) _
    rw [if_neg (by omega)]
    exact congrArg (fun z => (k, zeTr G v) :: z) (zeEnt_ll G l (k + 1) r (fun w hw => h w (List.mem_cons_of_mem _ hw)) hG)
theorem zeSl_len (G : zeG) (hG : zeGv G) : ∀ (as : List Value), (∀ v ∈ as, zeCat1 v = true) → (lg_sl (as.map (zeTr G))).length = as.length
  | [], _ => rfl
  | v :: l, h => by
    have h1 := zeTr_cat hG (h v List.mem_cons_self)
    have h2 := zeSl_len G hG l (fun w hw => h w (List.mem_cons_of_mem _ hw))
    unfold lg_sl at h2 ⊢
    rw [List.map_cons, List.flatMap_cons, List.length_append, h2, if_neg (by omega)]
    simp
    omega
theorem zeGet_ent : ∀ (as : List Value) (r k : Nat) (v : Value), zeGet (as.map some ++ List.replicate r none) k = some v → v ∈ as
  | [], r, k, v, h => by
    exfalso
    have : ∀ (r k : Nat), zeGet (List.replicate r none) k = none := by
      intro r
      induction r with
      | zero => intro k; cases k <;> rfl
      | succ r ih =>
        intro k
        cases k with
        | zero => rfl
        | succ k => exact ih k
    rw [List.map_nil, List.nil_append, this r k] at h
    cases h
  | a :: l, r, 0, v, h => by
    cases h
    exact List.mem_cons_self
  | a :: l, r, k + 1, v, h => List.mem_cons_of_mem _ (zeGet_ent l r k v h)
/-- what a method of ours needs of the tables (all of it decided once a method) -/
def zeMok (j : Nat) : Prop := plainName (zeNam j).cls = true ∧ ((zeRt j = none ∧ zeRk j = .return_) ∨ (zeRt j = some .int ∧ zeRk j = .ireturn) ∨ ((zeRt j = some .boolean ∨ zeRt j = some .char ∨ zeRt j = some .byte) ∧ zeRk j = .ireturn) ∨ (((∃ nm, zeRt j = some (.object nm)) ∨ ∃ t, zeRt j = some (.array t)) ∧ zeRk j = .areturn) ∨ (zeRt j = some .long ∧ zeRk j = .lreturn))
def zeRoom (j : Nat) (μ μ1 : zeM) : Room := { frames := zeDp j, cells := zeN μ1 - zeN μ, slots := zeSl μ1 - zeSl μ, locals := zeLc j }
def zeWs (j : Nat) : List Cond := .code (zeNam j) (zeCod j) (zeNl j) (zeRt j) :: zeBT
def zePc (G : zeG) (as : List Value) (μ : zeM) : Array Value → State → Prop := fun a U => a = (as.map (zeTr G)).toArray ∧ zePic G μ U.heap ∧ va_K (zeD G) zeCl (zeTY G) U ∧ zeOldA G U U.heap ∧ zeSta G U U.heap
def zeQc (G : zeG) (v : Option Value) (μ1 : zeM) : Array Value → State → Outcome → State → Prop := fun _ st o t => o = .returned (v.map (zeTr G)) ∧ zePic G μ1 t.heap ∧ va_F (zeA G) st t
theorem zeMet {j : Nat} {as : List Value} {v : Option Value} {μ μ1 : zeM} (l : Launch) (hG : zeGv G) (hok : zeMok j) (hcat : ∀ v ∈ as, zeCat1 v = true) (hlen : as.length ≤ zeNl j) (hgo : zeGO G j v μ1 0 (zeEnt (zeNl j) as) [] μ) : Met l (zeNam j) (zeWs j) (zeRoom j μ μ1) (zePc G as μ) (zeQc G v μ1) (zeN μ1 - zeN μ) (zeSl μ1 - zeSl μ) (zeA G) := by
  refine Met.ofW (cc := zeCod j) (maxL := zeNl j) (ret := zeRt j) hok.1 rfl ?_
  intro p e s m args below meth c s₁ B hml hv
  obtain ⟨rfl, hP, hK, hO, hZ⟩ := hv
  have hts : ∀ w ∈ zeWs j, w.before _ s = true := atoms_spec (ws := zeWs j) B.pre
  have hcx : zeCx G j p s m (as.map (zeTr G)).toArray meth c := ⟨B.exec, B.bytes, hml, findClass_of_methodNamed B.named, fun w hw => hts w (List.mem_cons_of_mem _ hw), hK, hO, hZ, (name_of_methodNamed B.named B.method).1, fun q hq => by show zeN0 G ≤ q; have := hP.2; omega, hG⟩
  have hl := lv_entry (as.map (zeTr G)) (n := zeNl j) (by rw [zeSl_len G hG as hcat]; exact hlen)
  rw [lg_entry_eq]
  generalize (lg_sl (as.map (zeTr G)) ++ List.replicate (zeNl j - (lg_sl (as.map (zeTr G))).length) Slot.unset).toArray = ls at hl ⊢
  have hL : zeLH G ls (zeNl j) (zeEnt (zeNl j) as) := by
    show lv_has ls (zeNl j) (zeLl G 0 (as.map some ++ _))
    rw [zeEnt_ll G as 0 _ hcat hG]
    exact hl
  have hN : zeNL j (zeEnt (zeNl j) as) := fun k w _ hw => hcat w (zeGet_ent as _ k w hw)
  have key := hgo p l e (headSpec (zeWs j) (zeRoom j μ μ1)).room s m (as.map (zeTr G)).toArray below meth c (MQ below (zeQc G v μ1) (as.map (zeTr G)).toArray s (zeN μ1 - zeN μ) (zeSl μ1 - zeSl μ) (zeA G)) (zeN μ) (zeSl μ) hcx (Nat.le_refl _) (Nat.le_refl _) (Nat.le_refl _) (Nat.le_refl _) ?_ (Nat.le_refl _) (Nat.le_refl _) s.heap [] ls hP va_S.rf hL hN
  · rw [Nat.sub_self, Nat.sub_self] at key
    exact key
  · intro H locs ls' pcr hrk hdec hP1 hS1
    have hlocks := B.notSynchronized
    have hr := B.returns
    have hq : ∀ t : State, t.heap = H → zePic G μ1 t.heap ∧ va_F (zeA G) s t := fun t ht => ⟨by rw [ht]; exact hP1, hS1.F ht⟩
    unfold zeRok at hrk
    rcases hok.2 with ⟨h1, h2⟩ | ⟨h1, h2⟩ | ⟨h1, h2⟩ | ⟨h1, h2⟩ | ⟨h1, h2⟩
    · rw [h1] at hrk hr
      rw [h2] at hdec
      subst hrk
      exact W.vret B.exec B.bytes hr (fun t ht _ => ⟨rfl, hq t ht⟩) hS1.2.2 hdec hlocks
    · rw [h1] at hrk hr
      rw [h2] at hdec
      obtain ⟨x, rfl⟩ := hrk
      exact W.iret B.exec B.bytes hr (fun t ht _ => ⟨rfl, hq t ht⟩) hS1.2.2 hdec hlocks
    · rw [h2] at hdec
      rcases h1 with h1 | h1 | h1 <;> rw [h1] at hrk hr <;> obtain ⟨x, rfl, hx⟩ := hrk
      · exact W.zret B.exec B.bytes hr hx (fun t ht _ => ⟨rfl, hq t ht⟩) hS1.2.2 hdec hlocks
      · exact W.zret B.exec B.bytes hr hx (fun t ht _ => ⟨rfl, hq t ht⟩) hS1.2.2 hdec hlocks
      · exact W.zret B.exec B.bytes hr hx (fun t ht _ => ⟨rfl, hq t ht⟩) hS1.2.2 hdec hlocks
    · rw [h2] at hdec
      rcases h1 with ⟨nm, h1⟩ | ⟨t, h1⟩ <;> rw [h1] at hrk hr <;> obtain ⟨a, rfl, ha⟩ := hrk
      · have e1 : ((some (Value.ref a)).map (zeTr G)).toList = [Value.ref (zeAd G a)] := congrArg (fun z => [z]) (zeTr_r G ha)
        rw [e1]
        exact W.aret B.exec B.bytes hr (Or.inl ⟨_, rfl⟩) (Or.inr ⟨_, rfl⟩) (fun t ht _ => ⟨congrArg (fun z => Outcome.returned (some z)) (zeTr_r G ha).symm, hq t ht⟩) hS1.2.2 hdec hlocks
      · have e1 : ((some (Value.ref a)).map (zeTr G)).toList = [Value.ref (zeAd G a)] := congrArg (fun z => [z]) (zeTr_r G ha)
        rw [e1]
        exact W.aret B.exec B.bytes hr (Or.inr ⟨_, rfl⟩) (Or.inr ⟨_, rfl⟩) (fun t ht _ => ⟨congrArg (fun z => Outcome.returned (some z)) (zeTr_r G ha).symm, hq t ht⟩) hS1.2.2 hdec hlocks
    · rw [h1] at hrk hr
      rw [h2] at hdec
      obtain ⟨x, rfl⟩ := hrk
      exact W.lret B.exec B.bytes hr (fun t ht _ => ⟨rfl, hq t ht⟩) hS1.2.2 hdec hlocks
end ZE
