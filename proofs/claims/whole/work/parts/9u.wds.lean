/-! THE TABLES' WORDS at the law's start *-/
theorem sel_p {C : String} {x0 y : MethodName} {s : State} {args : Array Value} (hy : y.cls ≠ "java/lang/invoke/MethodHandle" ∧ y.cls ≠ "java/lang/invoke/VarHandle") (h0 : (Cond.selects C x0 x0).before args s = true) (hcls : x0.cls = y.cls) (hpriv : (Cond.privateMethod y).before args s = true) (hinst : (Cond.instanceMethod y).before args s = true) : (Cond.selects C y y).before args s = true := by
  obtain ⟨c, r0, m0, h1, h2, h3, h4, k, hk, hki⟩ := Cond.selects_spec h0
  obtain ⟨mk, methM, hnamed, hmethM, -, -⟩ := Cond.instanceMethod_spec hinst
  have hfound : s.methodFound? y.cls y.name y.desc = some mk := State.methodFound?_of_named hnamed hy
  have hc0 : s.vm.findClass y.cls = some m0.cls := by rw [← hcls]; exact findClass_of_methodNamed h3
  have hcm : mk.cls = m0.cls := Option.some.inj ((findClass_of_methodNamed hnamed).symm.trans hc0)
  have hsel : selectMethod {} s.vm c mk = .method mk := selectMethod_private hmethM (Cond.privateMethod_at hpriv mk methM hnamed hmethM)
  simp only [Cond.before, Cond.holds, Cond.value, h1, hfound, hnamed, hsel, hcm, hk]
  simp; exact hki
theorem xs_ok {s : State} {args : Array Value} (h : ∀ w ∈ lw_tbl, w.before args s = true) : ∀ w ∈ zeBT, w.before args s = true := by
  have t : ∀ (w : Cond) (k : Nat), tables_1[k]? = some w → w.before args s = true := fun w k hk => h w (by unfold lw_tbl; exact List.mem_append_right _ (List.mem_of_getElem? hk))
  have h0 : (Cond.selects "java/lang/StringBuilder" ⟨"java/lang/AbstractStringBuilder", "isLatin1", "()Z"⟩ ⟨"java/lang/AbstractStringBuilder", "isLatin1", "()Z"⟩).before args s = true := t _ 797 (by decide +kernel)
  intro w hw
  rcases List.mem_append.mp (List.mem_filter.mp hw).1 with g | g
  · have g : w ∈ [Cond.selects "java/lang/StringBuilder" ⟨"java/lang/AbstractStringBuilder", "newCapacity", "(I)I"⟩ ⟨"java/lang/AbstractStringBuilder", "newCapacity", "(I)I"⟩, Cond.selects "java/lang/StringBuilder" ⟨"java/lang/AbstractStringBuilder", "ensureCapacityInternal", "(I)V"⟩ ⟨"java/lang/AbstractStringBuilder", "ensureCapacityInternal", "(I)V"⟩, Cond.selects "java/lang/StringBuilder" ⟨"java/lang/AbstractStringBuilder", "putStringAt", "(ILjava/lang/String;)V"⟩ ⟨"java/lang/AbstractStringBuilder", "putStringAt", "(ILjava/lang/String;)V"⟩, Cond.selects "java/lang/StringBuilder" ⟨"java/lang/AbstractStringBuilder", "inflateIfNeededFor", "(Ljava/lang/String;)V"⟩ ⟨"java/lang/AbstractStringBuilder", "inflateIfNeededFor", "(Ljava/lang/String;)V"⟩] := g
    simp only [List.mem_cons, List.not_mem_nil, or_false] at g
    rcases g with rfl | rfl | rfl | rfl
    · exact sel_p (by decide +kernel) h0 rfl (t _ 770 (by decide +kernel)) (t _ 771 (by decide +kernel))
    · exact sel_p (by decide +kernel) h0 rfl (t _ 766 (by decide +kernel)) (t _ 767 (by decide +kernel))
    · exact sel_p (by decide +kernel) h0 rfl (t _ 860 (by decide +kernel)) (t _ 861 (by decide +kernel))
    · exact sel_p (by decide +kernel) h0 rfl (t _ 864 (by decide +kernel)) (t _ 865 (by decide +kernel))
  · exact h w g
