/-! SOUND OPS: fields and arrays, written; new cells; copies -/
theorem zePic.put {G : zeG} {μ μ' : zeM} {H H1 : Heap} {k : Nat} (h : zePic G μ H) (h1 : 16 ≤ k) (h2 : k < 16 + zeN μ) (hn : zeN μ' = zeN μ) (ho : ∀ a, a ≠ k → zeCell G μ' a = zeCell G μ a) (hc : va_at (zeD G) zeCl (zeAd G k, zeCell G μ' k) H1) (hz : H1.size = H.size) (hq : ∀ q : Nat, q ≠ zeAd G k → H1[q]? = H[q]?) : zePic G μ' H1 := by
  refine ⟨?_, by rw [hz, h.2, hn]⟩
  rw [zeW_set h1 h2 hn ho]
  exact h.1.set (zeW_D G μ) (zeW_get h1 h2) hc hq
theorem zeA_ad (G : zeG) (a : Nat) : zeA G (zeAd G a) := by
  show zeN0 G ≤ zeN0 G + _
  omega
/-- an op that writes: its walk, one machine step -/
theorem zs_wr {G : zeG} {i pc : Nat} {op : zeOp} (hn : ∀ L st μ x, op L st μ ≠ some (.inr x))
    (hs : ∀ L st μ pc' L' st' μ', op L st μ = some (.inl (pc', L', st', μ')) → L' = L ∧ zeMon μ μ' ∧ (μ'.1 = true → zeWf G μ → zeWf G μ' ∧ ∀ (p : Program) (l : Launch) (e : Env) (R : Room) (s : State) (m : MethodId) (args : Array Value) (below : List Frame) (meth : Method) (c : Code) (Q : State → Prop) (H : Heap) (locs : List Loc) (ls : Array Slot) (n0 s0 : Nat),
      zeCx G i p s m args meth c → zeDp i ≤ R.frames → zeLc i ≤ R.locals → zeN μ' - n0 ≤ R.cells → zeSl μ' - s0 ≤ R.slots → n0 ≤ zeN μ → s0 ≤ zeSl μ → zePic G μ H → va_S (zeA G) s.heap H locs → ls.size = zeNl i →
      (∀ (H1 : Heap) (locs1 : List Loc), zePic G μ' H1 → va_S (zeA G) s.heap H1 locs1 → W p l e R s m args below meth c H1 locs1 (zeN μ' - n0) (zeSl μ' - s0) Q (F0 m pc' ls (st'.map (zeTr G)))) → W p l e R s m args below meth c H locs (zeN μ - n0) (zeSl μ - s0) Q (F0 m pc ls (st.map (zeTr G))))) : zeSnd G i pc op := by
  intro L st μ
  refine ⟨fun pc' L' st' μ' h => ?_, fun v μ' h => absurd h (hn _ _ _ _), fun j as pc' L' st' μ' h => absurd h (hn _ _ _ _)⟩
  obtain ⟨rfl, hm0, hb⟩ := hs L st μ pc' L' st' μ' h
  refine ⟨hm0, fun h1 hwf => ⟨(hb h1 hwf).1, fun v μ'' hm hgo => ?_⟩⟩
  intro p l e R s m args below meth c Q n0 s0 hcx hd hl hn0 hs0 hret hc hs H locs ls hP hS hL hN
  refine (hb h1 hwf).2 p l e R s m args below meth c Q H locs ls n0 s0 hcx hd hl (by have := hm.2.1; omega) (by have := hm.2.2; omega) hn0 hs0 hP hS hL.1 fun H1 locs1 hP1 hS1 => ?_
  exact hgo p l e R s m args below meth c Q n0 s0 hcx hd hl (Nat.le_trans hn0 hm0.2.1) (Nat.le_trans hs0 hm0.2.2) hret hc hs H1 locs1 ls hP1 hS1 hL hN
/-! the virtual cells behind a write -/
theorem zeWf.im {G : zeG} {μ : zeM} (h : zeWf G μ) {f : Nat → Nat → Int32} {a : Nat} (h1 : 16 ≤ a) (hf : ∀ a', a' ≠ a → f a' = zeIm μ a') (hb : zeKd μ a = 42 → ∀ j, fits .byte (.int (f a j)) = true) : zeWf G (zeSIm f μ) := by
  refine ⟨fun k hk => ?_, fun k hk j => ?_, h.2.2.1, h.2.2.2.1, h.2.2.2.2⟩
  · obtain ⟨e1, e2, e3, e4⟩ := h.1 k hk
    exact ⟨e1, e2, fun j => by show f k j = _; rw [hf k (by omega)]; exact e3 j, e4⟩
  · show fits .byte (.int (f k j)) = true
    by_cases hka : k = a
    · subst hka
      rcases hk with hk | hk
      · exact hb hk j
      · have hk : zeKd μ k = 102 := hk
        rcases (h.2.2.1 k (by omega)).2 with g | g <;> omega
    · rw [hf k hka]
      exact h.2.1 k hk j
theorem zeWf.lm {G : zeG} {μ : zeM} (h : zeWf G μ) (f : Nat → Nat → Int64) : zeWf G (zeSLm f μ) := h
theorem zeWf.rm {G : zeG} {μ : zeM} (h : zeWf G μ) {f : Nat → Nat → Option Nat} {a : Nat} (h1 : 16 ≤ a) (hf : ∀ a', a' ≠ a → f a' = zeRm μ a') (hb : ∀ j b, f a j = some b → 16 ≤ b) : zeWf G (zeSRm f μ) := by
  refine ⟨fun k hk => ?_, h.2.1, h.2.2.1, fun k j b hk h16 => ?_, h.2.2.2.2⟩
  · obtain ⟨e1, e2, e3, e4⟩ := h.1 k hk
    exact ⟨e1, e2, e3, fun j => by show f k j = _; rw [hf k (by omega)]; exact e4 j⟩
  · by_cases hka : k = a
    · subst hka
      exact hb j b hk
    · have : zeRm μ k j = some b := by
        rw [← hf k hka]
        exact hk
      exact h.2.2.2.1 k j b this h16
theorem zeU2_ne {α : Type} {f : Nat → Nat → α} {a j : Nat} {x : α} {a' : Nat} (h : a' ≠ a) : zeU2 f a j x a' = f a' := by
  funext j'
  simp [zeU2, h]
theorem zeU2_eq {α : Type} (f : Nat → Nat → α) (a j : Nat) (x : α) : zeU2 f a j x a = fun j' => if j' = j then x else f a j' := by
  funext j'
  simp [zeU2]
theorem zeFs_seti (G : zeG) (r : Nat → Option Nat) (f : Nat → Int32) (x : Int32) {l : List Bool} {j : Nat} (hb : l[j]? = some false) : zeFs G r (fun j' => if j' = j then x else f j') 0 l = (zeFs G r f 0 l).set j (.int x) := by
  apply List.ext_getElem?
  intro k
  have hj := (List.getElem?_eq_some_iff.mp hb).1
  by_cases hk : k = j
  · subst hk
    rw [List.getElem?_set_self (by rw [zeFs_len]; exact hj), zeFs_get G _ _ _ _ _ _ hb]
    simp
  · rw [List.getElem?_set_ne (Ne.symm hk)]
    cases hl : l[k]? with
    | none =>
      have := List.getElem?_eq_none_iff.mp hl
      rw [List.getElem?_eq_none (by rw [zeFs_len]; exact this), List.getElem?_eq_none (by rw [zeFs_len]; exact this)]
    | some b =>
      rw [zeFs_get G _ _ _ _ _ _ hl, zeFs_get G _ _ _ _ _ _ hl]
      simp [hk]
theorem zeFs_setr (G : zeG) (r : Nat → Option Nat) (f : Nat → Int32) (x : Option Nat) {l : List Bool} {j : Nat} (hb : l[j]? = some true) : zeFs G (fun j' => if j' = j then x else r j') f 0 l = (zeFs G r f 0 l).set j (va_rf (x.map (zeAd G))) := by
  apply List.ext_getElem?
  intro k
  have hj := (List.getElem?_eq_some_iff.mp hb).1
  by_cases hk : k = j
  · subst hk
    rw [List.getElem?_set_self (by rw [zeFs_len]; exact hj), zeFs_get G _ _ _ _ _ _ hb]
    simp
  · rw [List.getElem?_set_ne (Ne.symm hk)]
    cases hl : l[k]? with
    | none =>
      have := List.getElem?_eq_none_iff.mp hl
      rw [List.getElem?_eq_none (by rw [zeFs_len]; exact this), List.getElem?_eq_none (by rw [zeFs_len]; exact this)]
    | some b =>
      rw [zeFs_get G _ _ _ _ _ _ hl, zeFs_get G _ _ _ _ _ _ hl]
      simp [hk]
/-! fields -/
section ZP
variable {p : Program} {l : Launch} {e : Env} {R : Room} {s : State} {m : MethodId} {args : Array Value} {below : List Frame} {meth : Method} {c : Code} {H : Heap} {locs : List Loc} {cells slots : Nat} {Q : State → Prop}
variable {cc : ByteArray} {pc : Nat} {ls : Array Slot} {rest : List Value} {D : va_G} {cl : List vw_C} {A : Nat → Prop} {a : Nat} {tys : List (ClassId × FieldType)} {ws : va_W} {H0 : Heap}
/-- putfield, with all that is known of the heap behind it -/
theorem zw_put (hexec : p.tables.exec = Jvm.exec) (hb : c.code = cc) {own ref C : String} {T : u_T} {N ci index : Nat} {Ts : List Cond} (hts : ∀ w ∈ Ts, w.before args s = true) (hin : ∀ w ∈ u_ws C T N, w ∈ Ts) (ty0 : Nat → FieldType) (hty : ∀ k, k < N → parseFieldDescriptor (T k).2.2.1 = some (ty0 k)) (hnm : ∀ a, a < N → ∀ b, b < N → a ≠ b → (T a).2.1 ≠ (T b).2.1) (hown : s.vm.findClass own = some m.cls) (hK : va_K D cl tys s) (hP : va_P D cl ws H) (q0 : Nat) {fs : List Value} (he : ws[q0]? = some (a, .inr (ci, fs))) (hc : cl[ci]? = some (C, T, N)) (k : Nat) (hk : k < N) (hlink : (Cond.fieldLink own index ref (T k).2.1 (T k).2.2.1).before args s = true) (href : (T k).1 = ref) (hfin : (T k).2.2.2 = false ∨ ((T k).2.2.2 = true ∧ meth.name = "<init>" ∧ (T k).1 = own)) {v : Value} (hn : narrow (ty0 k) v = v) (hfit : fits (ty0 k) v = true) (hl : k < fs.length)
    (hdg : decode cc pc = .ok (.putfield index, 3)) (kk : ∀ (H1 : Heap), va_at D cl (a, .inr (ci, fs.set k v)) H1 → H1.size = H.size → (∀ q : Nat, q ≠ a → H1[q]? = H[q]?) → W p l e R s m args below meth c H1 (locs ++ [⟨a, D.2 ci k⟩]) cells slots Q (F0 m (pc + 3) ls rest)) : W p l e R s m args below meth c H locs cells slots Q (F0 m pc ls (v :: .ref a :: rest)) := by
  subst href
  have hap := va_apart (own := own) hts hin ty0 hty hnm hK hc
  obtain ⟨r, h1, cell, q1, q2, q3, q4⟩ := hP q0 _ he
  have hr : r = (C, T, N) := Option.some.inj (h1.symm.trans hc)
  subst hr
  obtain ⟨hS, hfc, kC, hkC, hkind⟩ := hK.1 ci _ hc
  obtain ⟨cf, kf, fi, f, hi, hsl⟩ := hS k hk
  have hlay := hts _ (hin _ (u_in_lay hk))
  unfold u_lay at hlay
  have hst := (u_facts hfc hkC (u_lays hts hin hk) hi).1
  rcases hfin with hfin | ⟨hfin, hin2, hdecl⟩
  · rw [if_neg (by rw [hfin]; decide)] at hlay
    have h6 := u_store hfc hkC hkind hlay hi (hty k hk) hn hfit
    refine W.putK hexec hb (f := f) ⟨hown, hlink, ⟨_, _, _, hi⟩, hst⟩ (by rw [q2]; exact h6) q1 q3 (by rw [hsl]; exact k2_hasslot (q4 k hk)) rfl rfl hdg fun H' e1 e2 e3 => ?_
    rw [hsl] at e1 ⊢
    exact kk H' ⟨_, hc, t_OB.to (V := updV (vp_V fs) k v) ⟨_, e1, q2, q3, t_set q4 hap hk v⟩ (fun j _ => vp_updV_set hl v j)⟩ e2 e3
  · rw [if_pos hfin] at hlay
    have hcf : m.cls = cf := by
      obtain ⟨_, _, c', _, _, _, -, -, hf', -, -, -, hown2, -⟩ := Cond.laysFinal_spec hlay
      have e1 : c' = cf := by have := hi.symm.trans hf'; simp at this; exact this.1.symm
      rw [hdecl] at hown2
      rw [← e1]; exact Option.some.inj (hown.symm.trans hown2)
    have h6 := u_fits hfc hkC hkind (Or.inr hlay) hi (hty k hk) hn hfit
    refine W.putFinK hexec hb hown hlink hi hst hcf hin2 (by rw [q2]; exact h6) q1 q3 (by rw [hsl]; exact k2_hasslot (q4 k hk)) rfl rfl hdg fun H' e1 e2 e3 => ?_
    rw [hsl] at e1 ⊢
    exact kk H' ⟨_, hc, t_OB.to (V := updV (vp_V fs) k v) ⟨_, e1, q2, q3, t_set q4 hap hk v⟩ (fun j _ => vp_updV_set hl v j)⟩ e2 e3
end ZP
