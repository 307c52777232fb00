/-! SOUND OPS: locals, branches -/
section ZL
variable {G : zeG} {i pc n t k : Nat}
/-- an op on the locals alone -/
theorem zs_iload (hd : decode (zeCod i) pc = .ok (.iload k, 2)) (hn : pc + 2 = n) : zeSnd G i pc (zoIl k n) := by
  subst hn
  refine zeSnd_of (fun L st μ x e => ?_) fun L st μ pc' L' st' μ' e => ?_
  · unfold zoIl at e
    split at e
    · cases zeNx_i e
    · cases e
  · unfold zoIl at e
    split at e
    · rename_i x hx
      cases zeNx_i e
      exact ⟨true, rfl, fun _ _ p l e R s m args below meth c Q H locs ls cells slots hcx _ _ _ _ _ _ hL hN K => lv_iload hcx.1 hcx.2.1 hd (hL.at hx) (K ls hL hN)⟩
    · cases e
theorem zs_iload_n {f : Fin 4} (hd : decode (zeCod i) pc = .ok (.iload_n f, 1)) (hf : (f : Nat) = k) (hn : pc + 1 = n) : zeSnd G i pc (zoIl k n) := by
  subst hn
  refine zeSnd_of (fun L st μ x e => ?_) fun L st μ pc' L' st' μ' e => ?_
  · unfold zoIl at e
    split at e
    · cases zeNx_i e
    · cases e
  · unfold zoIl at e
    split at e
    · rename_i x hx
      cases zeNx_i e
      exact ⟨true, rfl, fun _ _ p l e R s m args below meth c Q H locs ls cells slots hcx _ _ _ _ _ _ hL hN K => lv_iload_n hcx.1 hcx.2.1 hd hf (hL.at hx) (K ls hL hN)⟩
    · cases e
theorem zs_lload_n {f : Fin 4} (hd : decode (zeCod i) pc = .ok (.lload_n f, 1)) (hf : (f : Nat) = k) (hn : pc + 1 = n) : zeSnd G i pc (zoLl k n) := by
  subst hn
  refine zeSnd_of (fun L st μ x e => ?_) fun L st μ pc' L' st' μ' e => ?_
  · unfold zoLl at e
    split at e
    · cases zeNx_i e
    · cases e
  · unfold zoLl at e
    split at e
    · rename_i x hx
      cases zeNx_i e
      exact ⟨true, rfl, fun _ _ p l e R s m args below meth c Q H locs ls cells slots hcx _ _ _ _ _ _ hL hN K => lv_lload_n hcx.1 hcx.2.1 hd hf (hL.at hx) (K ls hL hN)⟩
    · cases e
theorem zs_aload_n {f : Fin 4} (hd : decode (zeCod i) pc = .ok (.aload_n f, 1)) (hf : (f : Nat) = k) (hn : pc + 1 = n) : zeSnd G i pc (zoAl k n) := by
  subst hn
  refine zeSnd_of (fun L st μ x e => ?_) fun L st μ pc' L' st' μ' e => ?_
  · unfold zoAl at e
    split at e
    · cases zeNx_i e
    · cases e
  · unfold zoAl at e
    split at e
    · rename_i x hx
      cases zeNx_i e
      refine ⟨true, rfl, fun _ _ p l e R s m args below meth c Q H locs ls cells slots hcx _ _ _ _ _ _ hL hN K => ?_⟩
      have h1 := hL.at hx
      have h2 := K ls hL hN
      obtain ⟨r, hr⟩ := zeTr_rf hcx.gv x
      rw [List.map_cons] at h2
      rw [hr] at h1 h2
      cases r with
      | none => exact lv_aload_nN hcx.1 hcx.2.1 hd hf h1 h2
      | some a => exact lv_aload_n hcx.1 hcx.2.1 hd hf h1 h2
    · cases e
theorem zs_aload (hd : decode (zeCod i) pc = .ok (.aload k, 2)) (hn : pc + 2 = n) : zeSnd G i pc (zoAl k n) := by
  subst hn
  refine zeSnd_of (fun L st μ x e => ?_) fun L st μ pc' L' st' μ' e => ?_
  · unfold zoAl at e
    split at e
    · cases zeNx_i e
    · cases e
  · unfold zoAl at e
    split at e
    · rename_i x hx
      cases zeNx_i e
      refine ⟨true, rfl, fun _ _ p l e R s m args below meth c Q H locs ls cells slots hcx _ _ _ _ _ _ hL hN K => ?_⟩
      have h1 := hL.at hx
      have h2 := K ls hL hN
      obtain ⟨r, hr⟩ := zeTr_rf hcx.gv x
      rw [List.map_cons] at h2
      rw [hr] at h1 h2
      cases r with
      | none => exact lv_aloadN hcx.1 hcx.2.1 hd h1 h2
      | some a => exact lv_aload hcx.1 hcx.2.1 hd h1 h2
    · cases e
theorem zs_istore (hg : zeLgW i k) (hk : k < zeNl i) (hd : decode (zeCod i) pc = .ok (.istore k, 2)) (hn : pc + 2 = n) : zeSnd G i pc (zoIs k n) := by
  subst hn
  refine zeSnd_of (fun L st μ x e => ?_) fun L st μ pc' L' st' μ' e => ?_
  · unfold zoIs at e
    split at e
    · cases zeNx_i e
    · cases e
  · unfold zoIs at e
    split at e
    · rename_i x st'
      cases zeNx_i e
      exact ⟨true, rfl, fun _ _ p l e R s m args below meth c Q H locs ls cells slots hcx _ _ _ _ _ _ hL hN K => lv_istore hcx.1 hcx.2.1 hd hL hk rfl fun ls' h' => K ls' (zeLH.set (v := .int x) hcx.gv hN hg h') (hN.set rfl)⟩
    · cases e
theorem zs_istore_n {f : Fin 4} (hg : zeLgW i k) (hk : k < zeNl i) (hd : decode (zeCod i) pc = .ok (.istore_n f, 1)) (hf : (f : Nat) = k) (hn : pc + 1 = n) : zeSnd G i pc (zoIs k n) := by
  subst hn
  refine zeSnd_of (fun L st μ x e => ?_) fun L st μ pc' L' st' μ' e => ?_
  · unfold zoIs at e
    split at e
    · cases zeNx_i e
    · cases e
  · unfold zoIs at e
    split at e
    · rename_i x st'
      cases zeNx_i e
      exact ⟨true, rfl, fun _ _ p l e R s m args below meth c Q H locs ls cells slots hcx _ _ _ _ _ _ hL hN K => lv_istore_n hcx.1 hcx.2.1 hd hf hL hk rfl fun ls' h' => K ls' (zeLH.set (v := .int x) hcx.gv hN hg h') (hN.set rfl)⟩
    · cases e
theorem zs_astore_n {f : Fin 4} (hg : zeLgW i k) (hk : k < zeNl i) (hd : decode (zeCod i) pc = .ok (.astore_n f, 1)) (hf : (f : Nat) = k) (hn : pc + 1 = n) : zeSnd G i pc (zoAs k n) := by
  subst hn
  refine zeSnd_of (fun L st μ x e => ?_) fun L st μ pc' L' st' μ' e => ?_
  · unfold zoAs at e
    split at e
    · cases zeNx_i e
    · cases e
  · unfold zoAs at e
    split at e
    · rename_i x st'
      cases zeNx_i e
      refine ⟨true, rfl, fun _ _ p l e R s m args below meth c Q H locs ls cells slots hcx _ _ _ _ _ _ hL hN K => ?_⟩
      have h3 : ∀ ls', lv_has ls' (zeNl i) ((k, zeTr G (.ref x)) :: (zeLl G 0 L).filter (fun q => !(q.1 == k) && !(q.1 + 1 == k && q.2.category == 2))) → _ := fun ls' h' => K ls' (zeLH.set (v := .ref x) hcx.gv hN hg h') (hN.set rfl)
      obtain ⟨r, hr⟩ := zeTr_rf hcx.gv x
      rw [List.map_cons]
      rw [hr] at h3 ⊢
      cases r with
      | none => exact lv_astore_nN hcx.1 hcx.2.1 hd hf hL hk rfl h3
      | some a => exact lv_astore_n hcx.1 hcx.2.1 hd hf hL hk rfl h3
    · cases e
theorem zs_astore (hg : zeLgW i k) (hk : k < zeNl i) (hd : decode (zeCod i) pc = .ok (.astore k, 2)) (hn : pc + 2 = n) : zeSnd G i pc (zoAs k n) := by
  subst hn
  refine zeSnd_of (fun L st μ x e => ?_) fun L st μ pc' L' st' μ' e => ?_
  · unfold zoAs at e
    split at e
    · cases zeNx_i e
    · cases e
  · unfold zoAs at e
    split at e
    · rename_i x st'
      cases zeNx_i e
      refine ⟨true, rfl, fun _ _ p l e R s m args below meth c Q H locs ls cells slots hcx _ _ _ _ _ _ hL hN K => ?_⟩
      have h3 : ∀ ls', lv_has ls' (zeNl i) ((k, zeTr G (.ref x)) :: (zeLl G 0 L).filter (fun q => !(q.1 == k) && !(q.1 + 1 == k && q.2.category == 2))) → _ := fun ls' h' => K ls' (zeLH.set (v := .ref x) hcx.gv hN hg h') (hN.set rfl)
      obtain ⟨r, hr⟩ := zeTr_rf hcx.gv x
      rw [List.map_cons]
      rw [hr] at h3 ⊢
      cases r with
      | none => exact lv_astoreN hcx.1 hcx.2.1 hd hL hk rfl h3
      | some a => exact lv_astore hcx.1 hcx.2.1 hd hL hk rfl h3
    · cases e
theorem zs_iinc {c : Int} {v : Int32} (hg : zeLgW i k) (hk : k < zeNl i) (hd : decode (zeCod i) pc = .ok (.iinc k c, 3)) (hv : Int32.ofInt c = v) (hn : pc + 3 = n) : zeSnd G i pc (zoInc k v n) := by
  subst hn
  subst hv
  refine zeSnd_of (fun L st μ x e => ?_) fun L st μ pc' L' st' μ' e => ?_
  · unfold zoInc at e
    split at e
    · cases zeNx_i e
    · cases e
  · unfold zoInc at e
    split at e
    · rename_i x hx
      cases zeNx_i e
      refine ⟨true, rfl, fun _ _ p l e R s m args below meth c Q H locs ls cells slots hcx _ _ _ _ _ _ hL hN K => ?_⟩
      obtain ⟨j, hj⟩ := List.getElem?_of_mem ((zeLl_mem G L 0 k _).mpr ⟨k, _, (Nat.zero_add k).symm, hx, rfl⟩)
      exact lv_iinc (x := x) hcx.1 hcx.2.1 hd hL hj rfl hk rfl fun ls' h' => K ls' (zeLH.set (v := .int _) hcx.gv hN hg h') (hN.set rfl)
    · cases e
theorem zs_goto {off : Int} (hd : decode (zeCod i) pc = .ok (.goto off, 3)) (ht : (pc : Int) + off = (t : Int)) : zeSnd G i pc (zoGo t) := by
  refine zs_st (fun L st μ x e => by cases zeNx_i e) fun L st μ pc' L' st' μ' e => ?_
  cases zeNx_i e
  exact ⟨rfl, true, rfl, fun _ _ p l e R s m args below meth c Q H locs ls cells slots hcx _ _ _ _ _ _ _ K => lv_goto hcx.1 hcx.2.1 hd ht K⟩
/-- a branch: both ways -/
theorem zeTo_if {μ : zeM} {P : Prop} [Decidable P] {a b : List Value} (h : ∀ (p : Program) (l : Launch) (e : Env) (R : Room) (s : State) (m : MethodId) (args : Array Value) (below : List Frame) (meth : Method) (c : Code) (Q : State → Prop) (H : Heap) (locs : List Loc) (ls : Array Slot) (cells slots : Nat), zeCx G i p s m args meth c → (P → W p l e R s m args below meth c H locs cells slots Q (F0 m t ls b)) → (¬ P → W p l e R s m args below meth c H locs cells slots Q (F0 m n ls b)) → W p l e R s m args below meth c H locs cells slots Q (F0 m pc ls a)) : zeTo G i μ pc (if P then t else n) a b := by
  intro p l e R s m args below meth c Q H locs ls cells slots hcx _ _ _ _ _ _ _ K
  refine h p l e R s m args below meth c Q H locs ls cells slots hcx (fun hP => ?_) (fun hP => ?_)
  · rwa [if_pos hP] at K
  · rwa [if_neg hP] at K
theorem zs_if_eq {off : Int} (hd : decode (zeCod i) pc = .ok (.ifCond .eq off, 3)) (ht : (pc : Int) + off = (t : Int)) (hn : pc + 3 = n) : zeSnd G i pc (zoZeq t n) := by
  subst hn
  refine zs_st (fun L st μ x e => ?_) fun L st μ pc' L' st' μ' e => ?_
  · unfold zoZeq at e
    split at e
    · cases zeNx_i e
    · cases e
  · unfold zoZeq at e
    split at e
    · cases zeNx_i e
      exact ⟨rfl, true, rfl, fun _ _ => zeTo_if fun p l e R s m args below meth c Q H locs ls cells slots hcx kt kf => lv_if_eq hcx.1 hcx.2.1 hd ht kt kf⟩
    · cases e
theorem zs_if_lt {off : Int} (hd : decode (zeCod i) pc = .ok (.ifCond .lt off, 3)) (ht : (pc : Int) + off = (t : Int)) (hn : pc + 3 = n) : zeSnd G i pc (zoZlt t n) := by
  subst hn
  refine zs_st (fun L st μ x e => ?_) fun L st μ pc' L' st' μ' e => ?_
  · unfold zoZlt at e
    split at e
    · cases zeNx_i e
    · cases e
  · unfold zoZlt at e
    split at e
    · cases zeNx_i e
      exact ⟨rfl, true, rfl, fun _ _ => zeTo_if fun p l e R s m args below meth c Q H locs ls cells slots hcx kt kf => lv_if_lt hcx.1 hcx.2.1 hd ht kt kf⟩
    · cases e
theorem zs_if_le {off : Int} (hd : decode (zeCod i) pc = .ok (.ifCond .le off, 3)) (ht : (pc : Int) + off = (t : Int)) (hn : pc + 3 = n) : zeSnd G i pc (zoZle t n) := by
  subst hn
  refine zs_st (fun L st μ x e => ?_) fun L st μ pc' L' st' μ' e => ?_
  · unfold zoZle at e
    split at e
    · cases zeNx_i e
    · cases e
  · unfold zoZle at e
    split at e
    · cases zeNx_i e
      exact ⟨rfl, true, rfl, fun _ _ => zeTo_if fun p l e R s m args below meth c Q H locs ls cells slots hcx kt kf => lv_if_le hcx.1 hcx.2.1 hd ht kt kf⟩
    · cases e
theorem zs_if_ge {off : Int} (hd : decode (zeCod i) pc = .ok (.ifCond .ge off, 3)) (ht : (pc : Int) + off = (t : Int)) (hn : pc + 3 = n) : zeSnd G i pc (zoZge t n) := by
  subst hn
  refine zs_st (fun L st μ x e => ?_) fun L st μ pc' L' st' μ' e => ?_
  · unfold zoZge at e
    split at e
    · cases zeNx_i e
    · cases e
  · unfold zoZge at e
    split at e
    · cases zeNx_i e
      exact ⟨rfl, true, rfl, fun _ _ => zeTo_if fun p l e R s m args below meth c Q H locs ls cells slots hcx kt kf => lv_if_ge hcx.1 hcx.2.1 hd ht kt kf⟩
    · cases e
theorem zs_if_gt {off : Int} (hd : decode (zeCod i) pc = .ok (.ifCond .gt off, 3)) (ht : (pc : Int) + off = (t : Int)) (hn : pc + 3 = n) : zeSnd G i pc (zoZgt t n) := by
  subst hn
  refine zs_st (fun L st μ x e => ?_) fun L st μ pc' L' st' μ' e => ?_
  · unfold zoZgt at e
    split at e
    · cases zeNx_i e
    · cases e
  · unfold zoZgt at e
    split at e
    · cases zeNx_i e
      exact ⟨rfl, true, rfl, fun _ _ => zeTo_if fun p l e R s m args below meth c Q H locs ls cells slots hcx kt kf => lv_if_gt hcx.1 hcx.2.1 hd ht kt kf⟩
    · cases e
theorem zs_if_ne {off : Int} (hd : decode (zeCod i) pc = .ok (.ifCond .ne off, 3)) (ht : (pc : Int) + off = (t : Int)) (hn : pc + 3 = n) : zeSnd G i pc (zoZeq n t) := by
  subst hn
  refine zs_st (fun L st μ x e => ?_) fun L st μ pc' L' st' μ' e => ?_
  · unfold zoZeq at e
    split at e
    · cases zeNx_i e
    · cases e
  · unfold zoZeq at e
    split at e
    · cases zeNx_i e
      exact ⟨rfl, true, rfl, fun _ _ => zeTo_if fun p l e R s m args below meth c Q H locs ls cells slots hcx kt kf => lv_if_ne hcx.1 hcx.2.1 hd ht kf kt⟩
    · cases e
theorem zs_icmp_eq {off : Int} (hd : decode (zeCod i) pc = .ok (.if_icmp .eq off, 3)) (ht : (pc : Int) + off = (t : Int)) (hn : pc + 3 = n) : zeSnd G i pc (zoCeq t n) := by
  subst hn
  refine zs_st (fun L st μ x e => ?_) fun L st μ pc' L' st' μ' e => ?_
  · unfold zoCeq at e
    split at e
    · cases zeNx_i e
    · cases e
  · unfold zoCeq at e
    split at e
    · cases zeNx_i e
      exact ⟨rfl, true, rfl, fun _ _ => zeTo_if fun p l e R s m args below meth c Q H locs ls cells slots hcx kt kf => lv_icmp_eq hcx.1 hcx.2.1 hd ht kt kf⟩
    · cases e
theorem zs_icmp_lt {off : Int} (hd : decode (zeCod i) pc = .ok (.if_icmp .lt off, 3)) (ht : (pc : Int) + off = (t : Int)) (hn : pc + 3 = n) : zeSnd G i pc (zoClt t n) := by
  subst hn
  refine zs_st (fun L st μ x e => ?_) fun L st μ pc' L' st' μ' e => ?_
  · unfold zoClt at e
    split at e
    · cases zeNx_i e
    · cases e
  · unfold zoClt at e
    split at e
    · cases zeNx_i e
      exact ⟨rfl, true, rfl, fun _ _ => zeTo_if fun p l e R s m args below meth c Q H locs ls cells slots hcx kt kf => lv_icmp_lt hcx.1 hcx.2.1 hd ht kt kf⟩
    · cases e
theorem zs_icmp_le {off : Int} (hd : decode (zeCod i) pc = .ok (.if_icmp .le off, 3)) (ht : (pc : Int) + off = (t : Int)) (hn : pc + 3 = n) : zeSnd G i pc (zoCle t n) := by
  subst hn
  refine zs_st (fun L st μ x e => ?_) fun L st μ pc' L' st' μ' e => ?_
  · unfold zoCle at e
    split at e
    · cases zeNx_i e
    · cases e
  · unfold zoCle at e
    split at e
    · cases zeNx_i e
      exact ⟨rfl, true, rfl, fun _ _ => zeTo_if fun p l e R s m args below meth c Q H locs ls cells slots hcx kt kf => lv_icmp_le hcx.1 hcx.2.1 hd ht kt kf⟩
    · cases e
theorem zs_icmp_ge {off : Int} (hd : decode (zeCod i) pc = .ok (.if_icmp .ge off, 3)) (ht : (pc : Int) + off = (t : Int)) (hn : pc + 3 = n) : zeSnd G i pc (zoCge t n) := by
  subst hn
  refine zs_st (fun L st μ x e => ?_) fun L st μ pc' L' st' μ' e => ?_
  · unfold zoCge at e
    split at e
    · cases zeNx_i e
    · cases e
  · unfold zoCge at e
    split at e
    · cases zeNx_i e
      exact ⟨rfl, true, rfl, fun _ _ => zeTo_if fun p l e R s m args below meth c Q H locs ls cells slots hcx kt kf => lv_icmp_ge hcx.1 hcx.2.1 hd ht kt kf⟩
    · cases e
theorem zs_icmp_gt {off : Int} (hd : decode (zeCod i) pc = .ok (.if_icmp .gt off, 3)) (ht : (pc : Int) + off = (t : Int)) (hn : pc + 3 = n) : zeSnd G i pc (zoCgt t n) := by
  subst hn
  refine zs_st (fun L st μ x e => ?_) fun L st μ pc' L' st' μ' e => ?_
  · unfold zoCgt at e
    split at e
    · cases zeNx_i e
    · cases e
  · unfold zoCgt at e
    split at e
    · cases zeNx_i e
      exact ⟨rfl, true, rfl, fun _ _ => zeTo_if fun p l e R s m args below meth c Q H locs ls cells slots hcx kt kf => lv_icmp_gt hcx.1 hcx.2.1 hd ht kt kf⟩
    · cases e
theorem zs_icmp_ne {off : Int} (hd : decode (zeCod i) pc = .ok (.if_icmp .ne off, 3)) (ht : (pc : Int) + off = (t : Int)) (hn : pc + 3 = n) : zeSnd G i pc (zoCeq n t) := by
  subst hn
  refine zs_st (fun L st μ x e => ?_) fun L st μ pc' L' st' μ' e => ?_
  · unfold zoCeq at e
    split at e
    · cases zeNx_i e
    · cases e
  · unfold zoCeq at e
    split at e
    · cases zeNx_i e
      exact ⟨rfl, true, rfl, fun _ _ => zeTo_if fun p l e R s m args below meth c Q H locs ls cells slots hcx kt kf => lv_icmp_ne hcx.1 hcx.2.1 hd ht kf kt⟩
    · cases e
end ZL
