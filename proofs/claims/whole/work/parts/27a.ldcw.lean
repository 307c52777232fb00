/-! a text constant by its wide instruction -/
theorem zw_ldcwS {p : Program} {l : Launch} {e : Env} {R : Room} {s : State} {m : MethodId} {args : Array Value} {below : List Frame} {meth : Method} {c : Code} {T : State} {locs : List Loc} {cells slots : Nat} (X : Stand p l e R s m args below meth c T locs cells slots) (hexec : p.tables.exec = Jvm.exec) {own text : String} {index : Nat} {a : Addr} (hown : s.vm.findClass own = some m.cls)
    (hconst : (Cond.stringRef own index text).before args s = true) (hev : (Term.string own index).eval args s none [] s = some (.ref a)) {g : JFrame} (hg : g.method = m) (hdg : decode c.code g.pc = .ok (.ldc_w index, 3)) :
    ∀ target, Steps p.tables e below (T.setTop { g with pc := g.pc + 3, stack := .ref a :: g.stack }) target → Steps p.tables e below (T.setTop g) target := by
  obtain ⟨k, cf, i, a', hk, hcf, hcp, -, hr, hev'⟩ := Cond.stringRef_spec hown hconst
  cases hev.symm.trans hev'
  obtain ⟨k', hk', he⟩ := X.warmed.alike.2.2 _ _ hk
  have hr' : k'.resolved[index]? = some (some (.string a)) := by
    rcases X.warmed.entry hk hk' index with h | ⟨h, -⟩
    · rw [h]; exact hr
    · rw [hr] at h; cases h
  intro target hrest
  subst hg
  jvm_step X.here [hexec, hdg, ldc_w.wp_string (e := e) (s := T) (f := g) X.here.top hk' (by rw [he]; exact hcf) hcp hr']
  exact hrest
theorem zs_ldcSw {G : zeG} {i pc n : Nat} {own tx : String} {a index : Nat} (ho : (zeNam i).cls = own) (hZ : ∀ (s : State), zeSta G s s.heap → ∃ t, zeTr G (.ref a) = .ref t ∧ vk_R own index tx t s) (hd : decode (zeCod i) pc = .ok (.ldc_w index, 3)) (hn : pc + 3 = n) : zeSnd G i pc (zoK (.ref a) n) := by
  subst hn
  refine zs_K fun μ rest p l e R s m args below meth c Q H locs ls cells slots hcx _ _ _ _ _ hS _ K => ?_
  obtain ⟨t, e1, e2⟩ := hZ s hcx.sta
  rw [e1] at K
  intro T hT X
  obtain ⟨t9, a9, b9⟩ := K T hT X
  exact ⟨t9, zw_ldcwS X hcx.1 (ho ▸ hcx.own) (text := tx) (a := t) e2.1 e2.2 (g := F0 m pc ls rest) rfl (by rw [hcx.2.1]; exact hd) t9 a9, b9⟩
