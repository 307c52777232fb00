/-! THE LAW'S WALK out of the virtual machine's -/
theorem law_W {p : Program} {e : Env} {s : State} {m : MethodId} {below : List Frame} {meth : Method} {c : Code} (l : Launch) {b L : Nat} {w : zI} {Ov : Nat → Value} {CA : Nat → ClassId} {D : va_G} (hL : L ≤ 260) (hS : w 1 0 = 30 ∧ w 1 1 = 30 ∧ w 1 2 = 100) (hov : Ov 0 = .ref b) (hx : p.tables.exec = Jvm.exec) (hcode : c.code = code) (hr : meth.sig.returnType = ret) (hlocks : meth.locks = false) (hcx : zeCx (zG0 s.heap.size Ov CA D L w) 212 p s m #[Value.ref b] meth c) : W p l e room_1 s m #[Value.ref b] below meth c s.heap [] 0 0 (lw_Z below #[Value.ref b] s) (entryFrame m ([Value.ref b] : List Value).toArray 16) := by
  obtain ⟨n', im', lm', e1, n1, n2⟩ := law_run w hS L (by omega)
  obtain ⟨_, hk⟩ := zeRun_ok (zG0 s.heap.size Ov CA D L w) 212 0 _ [] _ _ e1
  obtain ⟨_, go⟩ := hk rfl (zeWf_0)
  have hG : zeGv (zG0 s.heap.size Ov CA D L w) := hcx.gv
  have has : ([Value.ref 0] : List Value).map (zeTr (zG0 s.heap.size Ov CA D L w)) = [Value.ref b] := by
    show [zeTr (zG0 s.heap.size Ov CA D L w) (.ref 0)] = _
    rw [zeTr_o _ (show 0 < 16 by decide)]
    exact congrArg (fun v => [v]) hov
  have hl := lv_entry ([Value.ref b] : List Value) (n := 16) (by show 1 ≤ 16; decide)
  rw [lg_entry_eq]
  generalize (lg_sl ([Value.ref b] : List Value) ++ List.replicate (16 - (lg_sl ([Value.ref b] : List Value)).length) Slot.unset).toArray = ls at hl ⊢
  have hcat : ∀ v ∈ ([Value.ref 0] : List Value), zeCat1 v = true := fun v hv => by rw [List.mem_singleton.mp hv]; rfl
  have hLH : zeLH (zG0 s.heap.size Ov CA D L w) ls 16 [some (.ref 0), none, none, none, none, none, none, none, none, none, none, none, none, none, none, none] := by
    have h := zeEnt_ll (zG0 s.heap.size Ov CA D L w) [.ref 0] 0 15 hcat hG
    show lv_has ls 16 (zeLl _ 0 ([Value.ref 0].map some ++ List.replicate 15 none))
    rw [h, has]; exact hl
  have hN : zeNL 212 [some (.ref 0), none, none, none, none, none, none, none, none, none, none, none, none, none, none, none] := fun k v _ hv => hcat v (zeGet_ent [.ref 0] 15 k v hv)
  refine go p l e room_1 s m #[Value.ref b] below meth c (lw_Z below #[Value.ref b] s) 0 0 hcx (by decide +kernel) (by decide +kernel) (Nat.zero_le _) (Nat.zero_le _) ?_ ?_ ?_ s.heap [] ls (zePic_0 rfl) va_S.rf hLH hN
  · intro H locs ls' pcr _ hdec _ hS1
    refine va_forget (fun q hq => hS1.2.2 q hq) ?_
    refine W.widen (k := 600000) (n := 7302250) ?_ ?_ (lw_ret hx hcode hr hlocks hdec)
    · show n' - 0 ≤ 600000; omega
    · show 3690 + 6 * (n' - 154) - 0 ≤ 7302250; omega
  · show n' - 0 ≤ room_1.cells
    have : room_1.cells = 600000 := by decide +kernel
    omega
  · show 3690 + 6 * (n' - 154) - 0 ≤ room_1.slots
    have : room_1.slots = 7302250 := by decide +kernel
    omega
