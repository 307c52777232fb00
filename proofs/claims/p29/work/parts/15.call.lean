/-! CALLS -/
theorem zeWs_good {j : Nat} (h : Cond.code (zeNam j) (zeCod j) (zeNl j) (zeRt j) ∈ zeBT) : GoodIn zeBT (zeWs j) := by
  intro w hw
  have hm : w ∈ zeBT := by
    rcases List.mem_cons.mp hw with rfl | hw
    · exact h
    · exact hw
  exact ⟨hm, good_of_word (zeBT_good w hm)⟩
theorem zeGood {w : Cond} (h : w ∈ zeBT) : w ∈ zeBT ∧ ((w.onTables && w.keeps) = true ∨ ∃ ty, w = .arrayClass ty) := ⟨h, good_of_word (zeBT_good w h)⟩
theorem zeGoods {ws : List Cond} (h : ∀ w ∈ ws, w ∈ zeBT) : GoodIn zeBT ws := fun w hw => zeGood (h w hw)
/-- behind a call of ours -/
theorem zw_call {G : zeG} {v1 : Option Value} {μ1 : zeM} {p : Program} {l : Launch} {e : Env} {R : Room} {s : State} {m : MethodId} {args : Array Value} {below : List Frame} {meth : Method} {c : Code} {H : Heap} {locs : List Loc} {cells slots mc ms : Nat} {Q : State → Prop} {pc : Nat} {ls : Array Slot} {rest st0 : List Value} {a : Array Value}
    (hr : va_Run p l e R s m args below meth c H locs cells slots mc ms (F0 m pc ls st0) rest (zeQc G v1 μ1 a) (zeA G)) (hS : va_S (zeA G) s.heap H locs)
    (kk : ∀ (H1 : Heap) (locs1 : List Loc), zePic G μ1 H1 → va_S (zeA G) s.heap H1 locs1 → W p l e R s m args below meth c H1 locs1 (cells + mc) (slots + ms) Q (F0 m (pc + 3) ls ((v1.map (zeTr G)).toList ++ rest))) : W p l e R s m args below meth c H locs cells slots Q (F0 m pc ls st0) := by
  intro T hT X
  obtain ⟨v, st₀, t, T', L, h0, X', hL, e1, e2, ⟨hv, hP, hz, hk⟩, st⟩ := hr T hT X
  cases hv
  rw [h0] at hz hk
  obtain ⟨t2, a1, b1⟩ := kk T'.heap (locs ++ L) (by rw [e1]; exact hP) ⟨Nat.le_trans hS.1 (by rw [e1]; exact hz), fun q h1 h2 => by rw [e1, hk q (Nat.lt_of_lt_of_le h1 hS.1) h2]; exact hS.2.1 q h1 h2, fun q hq => by
      rcases List.mem_append.mp hq with h | h
      · exact hS.2.2 q h
      · exact hL q h⟩ T' rfl X'
  exact ⟨t2, st t2 a1, b1⟩
theorem zePc_blind {G : zeG} {as : List Value} {μ : zeM} : FrameBlind (zePc G as μ) := by
  intro a U g mk h
  obtain ⟨h1, h2, h3, h4, h5⟩ := h
  exact ⟨h1, h2, va_K.moved (u := U) (U := U.calling g mk a) (Vm.Alike.refl U.vm) h3, zeOldA.to (u := U) (U := U.calling g mk a) (Vm.Alike.refl U.vm) (fun _ _ _ => rfl) h4, by
    obtain ⟨g1, g2, g5, g6, g7, g3, g8, g9, g10, g11, g12, g13, g4, g14, g15⟩ := h5
    have hvm : U.vm.Alike (U.calling g mk a).vm := Vm.Alike.refl U.vm
    exact ⟨g1.moved hvm, trivial, trivial, trivial, trivial, trivial, g8.moved hvm, g9.same rfl rfl, g10.same rfl rfl, g11.same rfl rfl, g12.same rfl rfl, g13.same rfl rfl, g4.same rfl rfl, g14.same rfl rfl, g15.same rfl rfl⟩⟩
theorem zePc_at {G : zeG} {i : Nat} {as : List Value} {μ : zeM} {p : Program} {s : State} {m : MethodId} {args : Array Value} {meth : Method} {c : Code} {H : Heap} {locs : List Loc} (hcx : zeCx G i p s m args meth c) (hP : zePic G μ H) (hS : va_S (zeA G) s.heap H locs) (U : State) (hU : U.heap = H) (hW : s.WarmedH U.vm) : zePc G as μ (as.map (zeTr G)).toArray U :=
  ⟨rfl, by rw [hU]; exact hP, va_K.moved hW.alike hcx.K, by rw [hU]; exact zeOldA.to hW.alike (fun a h1 h2 => hS.2.1 a h1 h2) hcx.old, by rw [hU]; exact zeSta.to hW (fun a h1 h2 => hS.2.1 a h1 h2) hcx.sta⟩
theorem zeAr_st : ∀ (k : Nat) (as st as' st' : List Value), zeAr k as st = some (as', st') → ∃ bs, as' = bs ++ as ∧ st = bs.reverse ++ st' ∧ bs.length = k
  | 0, as, st, as', st', h => by
    cases h
    exact ⟨[], rfl, rfl, rfl⟩
  | k + 1, as, v :: st, as', st', h => by
    obtain ⟨bs, h1, h2, h3⟩ := zeAr_st k (v :: as) st as' st' h
    exact ⟨bs ++ [v], by simp [h1], by simp [h2], by simp [h3]⟩
  | k + 1, as, [], as', st', h => by cases h
/-- what the callee's tables say for a call -/
def zeCw (i f k : Nat) : Prop := zeMok f ∧ Cond.code (zeNam f) (zeCod f) (zeNl f) (zeRt f) ∈ zeBT ∧ Cond.initialized (zeNam f).cls ∈ zeBT ∧ ((zeNam f).cls ≠ "java/lang/invoke/MethodHandle" ∧ (zeNam f).cls ≠ "java/lang/invoke/VarHandle" ∧ (parseMethodDescriptor (zeNam f).desc).map (fun d => d.parameters.length) = some k) ∧ zeDp f + 1 ≤ zeDp i ∧ 8 + (zeNl f + 11) + zeLc f ≤ zeLc i
section ZC
variable {G : zeG} {i pc n f k : Nat}
/-- a call: what the kit's row of its kind gives -/
theorem zs_callS (hlen : k ≤ zeNl f) (hok : zeMok f) (hrun : ∀ (p : Program) (l : Launch) (e : Env) (R : Room) (s : State) (m : MethodId) (args : Array Value) (below : List Frame) (meth : Method) (c : Code) (H : Heap) (locs : List Loc) (ls : Array Slot) (cells slots mc ms : Nat) (as : List Value) (μ : zeM) (rest : List Value) (v1 : Option Value) (μ1 : zeM),
      zeCx G i p s m args meth c → zeDp i ≤ R.frames → zeLc i ≤ R.locals → ls.size = zeNl i → as.length = k → Met l (zeNam f) (zeWs f) (zeRoom f μ μ1) (zePc G as μ) (zeQc G v1 μ1) (zeN μ1 - zeN μ) (zeSl μ1 - zeSl μ) (zeA G) → zePic G μ H → va_S (zeA G) s.heap H locs → (rest.map fun v => v.category).sum ≤ 8 → cells + (zeN μ1 - zeN μ) ≤ R.cells ∧ slots + (zeSl μ1 - zeSl μ) ≤ R.slots →
      va_Run p l e R s m args below meth c H locs cells slots (zeN μ1 - zeN μ) (zeSl μ1 - zeSl μ) (F0 m pc ls ((as.map (zeTr G)).reverse ++ rest)) rest (zeQc G v1 μ1 (as.map (zeTr G)).toArray) (zeA G)) : zeSnd G i pc (zoCs f k (pc + 3)) := by
  intro L st μ
  refine ⟨fun pc' L' st' μ' h => ?_, fun v μ' h => ?_, fun j as pc' L' st' μ' h => ?_⟩
  · unfold zoCs at h
    split at h
    · rename_i as st9 hz
      cases hb : (Nat.ble st9.length 4 && as.all zeCat1) <;> rw [hb] at h <;> cases h
    · cases h
  · unfold zoCs at h
    split at h
    · rename_i as st9 hz
      cases hb : (Nat.ble st9.length 4 && as.all zeCat1) <;> rw [hb] at h <;> cases h
    · cases h
  · unfold zoCs at h
    split at h
    · rename_i as9 st9 hz
      cases hb : (Nat.ble st9.length 4 && as9.all zeCat1) <;> rw [hb] at h
      · cases h
      · cases h
        rw [Bool.and_eq_true, List.all_eq_true] at hb
        have hst := Nat.le_of_ble_eq_true hb.1
        obtain ⟨bs, h1, h2, h3⟩ := zeAr_st k [] st _ _ hz
        rw [List.append_nil] at h1
        subst h1
        subst h2
        refine ⟨rfl, fun v1 μ1 v μ'' hm1 hm2 hw hgo1 hgo2 => ?_⟩
        intro p l e R s m args below meth c Q n0 s0 hcx hd hl hn0 hs0 hret hc hs H locs ls hP hS hL hN
        have hM := zeMet l hcx.gv hok hb.2 (by omega) hgo1
        have e1 : zeN μ1 - n0 = (zeN μ - n0) + (zeN μ1 - zeN μ) := by have := hm1.2.1; omega
        have e2 : zeSl μ1 - s0 = (zeSl μ - s0) + (zeSl μ1 - zeSl μ) := by have := hm1.2.2; omega
        have hcat := zeCats hcx.gv st'
        have hr := hrun p l e R s m args below meth c H locs ls (zeN μ - n0) (zeSl μ - s0) (zeN μ1 - zeN μ) (zeSl μ1 - zeSl μ) as μ (st'.map (zeTr G)) v1 μ1 hcx hd hl hL.1 h3 hM hP hS (by omega) ⟨by rw [← e1]; have := hm2.2.1; omega, by rw [← e2]; have := hm2.2.2; omega⟩
        rw [List.map_append, List.map_reverse]
        refine zw_call hr hS fun H1 locs1 hP1 hS1 => ?_
        have K := hgo2 p l e R s m args below meth c Q n0 s0 hcx hd hl (Nat.le_trans hn0 hm1.2.1) (Nat.le_trans hs0 hm1.2.2) hret hc hs H1 locs1 ls hP1 hS1 hL hN
        rw [e1, e2, List.map_append] at K
        have e3 : (v1.map (zeTr G)).toList = v1.toList.map (zeTr G) := by cases v1 <;> rfl
        rw [e3]
        exact K
    · cases h
theorem zs_callV {kd : Nat} (hlen : k + 1 ≤ zeNl f) (hok : zeMok f) (hrun : ∀ (p : Program) (l : Launch) (e : Env) (R : Room) (s : State) (m : MethodId) (args : Array Value) (below : List Frame) (meth : Method) (c : Code) (H : Heap) (locs : List Loc) (ls : Array Slot) (cells slots mc ms : Nat) (b : Nat) (as : List Value) (μ : zeM) (rest : List Value) (v1 : Option Value) (μ1 : zeM),
      zeCx G i p s m args meth c → zeDp i ≤ R.frames → zeLc i ≤ R.locals → ls.size = zeNl i → zeWf G μ → zeKd μ b = kd → as.length = k → Met l (zeNam f) (zeWs f) (zeRoom f μ μ1) (zePc G (.ref b :: as) μ) (zeQc G v1 μ1) (zeN μ1 - zeN μ) (zeSl μ1 - zeSl μ) (zeA G) → zePic G μ H → va_S (zeA G) s.heap H locs → (rest.map fun v => v.category).sum ≤ 8 → cells + (zeN μ1 - zeN μ) ≤ R.cells ∧ slots + (zeSl μ1 - zeSl μ) ≤ R.slots →
      va_Run p l e R s m args below meth c H locs cells slots (zeN μ1 - zeN μ) (zeSl μ1 - zeSl μ) (F0 m pc ls ((as.map (zeTr G)).reverse ++ zeTr G (.ref b) :: rest)) rest (zeQc G v1 μ1 (zeTr G (.ref b) :: as.map (zeTr G)).toArray) (zeA G)) : zeSnd G i pc (zoCv kd f k (pc + 3)) := by
  intro L st μ
  refine ⟨fun pc' L' st' μ' h => ?_, fun v μ' h => ?_, fun j as pc' L' st' μ' h => ?_⟩
  · unfold zoCv at h
    split at h
    · rename_i as b st9 hz
      cases hb : (Nat.beq (zeKd μ b) kd && (Nat.ble st9.length 4 && as.all zeCat1)) <;> rw [hb] at h <;> cases h
    · cases h
  · unfold zoCv at h
    split at h
    · rename_i as b st9 hz
      cases hb : (Nat.beq (zeKd μ b) kd && (Nat.ble st9.length 4 && as.all zeCat1)) <;> rw [hb] at h <;> cases h
    · cases h
  · unfold zoCv at h
    split at h
    · rename_i as9 b st9 hz
      cases hb : (Nat.beq (zeKd μ b) kd && (Nat.ble st9.length 4 && as9.all zeCat1)) <;> rw [hb] at h
      · cases h
      · cases h
        rw [Bool.and_eq_true, Bool.and_eq_true, List.all_eq_true] at hb
        have hkb := Nat.eq_of_beq_eq_true hb.1
        have hst := Nat.le_of_ble_eq_true hb.2.1
        obtain ⟨bs, h1, h2, h3⟩ := zeAr_st k [] st _ _ hz
        rw [List.append_nil] at h1
        subst h1
        subst h2
        refine ⟨rfl, fun v1 μ1 v μ'' hm1 hm2 hw hgo1 hgo2 => ?_⟩
        intro p l e R s m args below meth c Q n0 s0 hcx hd hl hn0 hs0 hret hc hs H locs ls hP hS hL hN
        have hcats : ∀ v ∈ Value.ref b :: as9, zeCat1 v = true := fun v hv => by
          rcases List.mem_cons.mp hv with rfl | hv
          · rfl
          · exact hb.2.2 v hv
        have hM := zeMet l hcx.gv hok hcats (by simp; omega) hgo1
        have e1 : zeN μ1 - n0 = (zeN μ - n0) + (zeN μ1 - zeN μ) := by have := hm1.2.1; omega
        have e2 : zeSl μ1 - s0 = (zeSl μ - s0) + (zeSl μ1 - zeSl μ) := by have := hm1.2.2; omega
        have hcat := zeCats hcx.gv st'
        have hr := hrun p l e R s m args below meth c H locs ls (zeN μ - n0) (zeSl μ - s0) (zeN μ1 - zeN μ) (zeSl μ1 - zeSl μ) b as9 μ (st'.map (zeTr G)) v1 μ1 hcx hd hl hL.1 hw hkb h3 hM hP hS (by omega) ⟨by rw [← e1]; have := hm2.2.1; omega, by rw [← e2]; have := hm2.2.2; omega⟩
        rw [List.map_append, List.map_reverse, List.map_cons]
        refine zw_call hr hS fun H1 locs1 hP1 hS1 => ?_
        have K := hgo2 p l e R s m args below meth c Q n0 s0 hcx hd hl (Nat.le_trans hn0 hm1.2.1) (Nat.le_trans hs0 hm1.2.2) hret hc hs H1 locs1 ls hP1 hS1 hL hN
        rw [e1, e2, List.map_append] at K
        have e3 : (v1.map (zeTr G)).toList = v1.toList.map (zeTr G) := by cases v1 <;> rfl
        rw [e3]
        exact K
    · cases h
end ZC
