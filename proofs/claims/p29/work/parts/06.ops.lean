/-! SOUND OPS: stack, locals, branches, reads -/
def zeTo (G : zeG) (i : Nat) (μ : zeM) (pc pc' : Nat) (a b : List Value) : Prop := ∀ (p : Program) (l : Launch) (e : Env) (R : Room) (s : State) (m : MethodId) (args : Array Value) (below : List Frame) (meth : Method) (c : Code) (Q : State → Prop) (H : Heap) (locs : List Loc) (ls : Array Slot) (cells slots : Nat),
  zeCx G i p s m args meth c → zeDp i ≤ R.frames → zeLc i ≤ R.locals → cells ≤ R.cells → slots ≤ R.slots → zePic G μ H → va_S (zeA G) s.heap H locs → ls.size = zeNl i →
  W p l e R s m args below meth c H locs cells slots Q (F0 m pc' ls b) → W p l e R s m args below meth c H locs cells slots Q (F0 m pc ls a)
theorem zs_st {G : zeG} {i pc : Nat} {op : zeOp} (hn : ∀ L st μ x, op L st μ ≠ some (.inr x))
    (hs : ∀ L st μ pc' L' st' μ', op L st μ = some (.inl (pc', L', st', μ')) → L' = L ∧ ∃ b, μ' = zeCk b μ ∧ (b = true → zeWf G μ → zeTo G i μ pc pc' (st.map (zeTr G)) (st'.map (zeTr G)))) : zeSnd G i pc op := by
  refine zeSnd_of hn fun L st μ pc' L' st' μ' h => ?_
  obtain ⟨rfl, b, e, hb⟩ := hs L st μ pc' L' st' μ' h
  refine ⟨b, e, fun h1 hw p l e R s m args below meth c Q H locs ls cells slots hcx hd hl hc hs hP hS hL hN K => ?_⟩
  exact hb h1 hw p l e R s m args below meth c Q H locs ls cells slots hcx hd hl hc hs hP hS hL.1 (K ls hL hN)
theorem zeNx_i {n : Nat} {L : zeLo} {st : List Value} {μ : zeM} {r : zeOut} (h : zeNx n L st μ = some r) : r = .inl (n, L, st, μ) := (Option.some.inj h).symm
theorem zeCk_t (μ : zeM) : μ = zeCk true μ := rfl
section ZS
variable {G : zeG} {i pc n : Nat}
theorem zs_Ic {v : Int32} (h : ∀ μ rest, zeTo G i μ pc n rest (.int v :: rest)) : zeSnd G i pc (zoIc v n) := by
  refine zs_st (fun L st μ x e => by cases zeNx_i e) fun L st μ pc' L' st' μ' e => ?_
  cases zeNx_i e
  exact ⟨rfl, true, rfl, fun _ _ => h _ _⟩
theorem zs_K {v : Value} (h : ∀ μ rest, zeTo G i μ pc n rest (zeTr G v :: rest)) : zeSnd G i pc (zoK v n) := by
  refine zs_st (fun L st μ x e => by cases zeNx_i e) fun L st μ pc' L' st' μ' e => ?_
  cases zeNx_i e
  exact ⟨rfl, true, rfl, fun _ _ => h _ _⟩
theorem zs_Lc {v : Int64} (h : ∀ μ rest, zeTo G i μ pc n rest (.long v :: rest)) : zeSnd G i pc (zoLc v n) := by
  refine zs_st (fun L st μ x e => by cases zeNx_i e) fun L st μ pc' L' st' μ' e => ?_
  cases zeNx_i e
  exact ⟨rfl, true, rfl, fun _ _ => h _ _⟩
theorem zs_I2 {f : Int32 → Int32 → Int32} (h : ∀ μ rest x y, zeTo G i μ pc n (.int y :: .int x :: rest) (.int (f x y) :: rest)) : zeSnd G i pc (zoI2 f n) := by
  refine zs_st (fun L st μ x e => ?_) fun L st μ pc' L' st' μ' e => ?_
  · unfold zoI2 at e
    split at e
    · cases zeNx_i e
    · cases e
  · unfold zoI2 at e
    split at e
    · cases zeNx_i e
      exact ⟨rfl, true, rfl, fun _ _ => h _ _ _ _⟩
    · cases e
theorem zs_D2 {f : Int32 → Int32 → Int32} (h : ∀ μ rest x y, ¬ y = 0 → zeTo G i μ pc n (.int y :: .int x :: rest) (.int (f x y) :: rest)) : zeSnd G i pc (zoD2 f n) := by
  refine zs_st (fun L st μ x e => ?_) fun L st μ pc' L' st' μ' e => ?_
  · unfold zoD2 at e
    split at e
    · cases zeNx_i e
    · cases e
  · unfold zoD2 at e
    split at e
    · cases zeNx_i e
      exact ⟨rfl, _, rfl, fun hb _ => h _ _ _ _ (by simpa using hb)⟩
    · cases e
theorem zs_I1 {f : Int32 → Int32} (h : ∀ μ rest x, zeTo G i μ pc n (.int x :: rest) (.int (f x) :: rest)) : zeSnd G i pc (zoI1 f n) := by
  refine zs_st (fun L st μ x e => ?_) fun L st μ pc' L' st' μ' e => ?_
  · unfold zoI1 at e
    split at e
    · cases zeNx_i e
    · cases e
  · unfold zoI1 at e
    split at e
    · cases zeNx_i e
      exact ⟨rfl, true, rfl, fun _ _ => h _ _ _⟩
    · cases e
theorem zs_L2 {f : Int64 → Int64 → Int64} (h : ∀ μ rest x y, zeTo G i μ pc n (.long y :: .long x :: rest) (.long (f x y) :: rest)) : zeSnd G i pc (zoL2 f n) := by
  refine zs_st (fun L st μ x e => ?_) fun L st μ pc' L' st' μ' e => ?_
  · unfold zoL2 at e
    split at e
    · cases zeNx_i e
    · cases e
  · unfold zoL2 at e
    split at e
    · cases zeNx_i e
      exact ⟨rfl, true, rfl, fun _ _ => h _ _ _ _⟩
    · cases e
theorem zs_Lsh {f : Int64 → Int32 → Int64} (h : ∀ μ rest x y, zeTo G i μ pc n (.int y :: .long x :: rest) (.long (f x y) :: rest)) : zeSnd G i pc (zoLsh f n) := by
  refine zs_st (fun L st μ x e => ?_) fun L st μ pc' L' st' μ' e => ?_
  · unfold zoLsh at e
    split at e
    · cases zeNx_i e
    · cases e
  · unfold zoLsh at e
    split at e
    · cases zeNx_i e
      exact ⟨rfl, true, rfl, fun _ _ => h _ _ _ _⟩
    · cases e
theorem zs_lcmp (hd : decode (zeCod i) pc = .ok (.lcmp, 1)) (hn : pc + 1 = n) : zeSnd G i pc (zoLcmp n) := by
  subst hn
  refine zs_st (fun L st μ x e => ?_) fun L st μ pc' L' st' μ' e => ?_
  · unfold zoLcmp at e
    split at e
    · cases zeNx_i e
    · cases e
  · unfold zoLcmp at e
    split at e
    · cases zeNx_i e
      exact ⟨rfl, true, rfl, fun _ _ p l e R s m args below meth c Q H locs ls cells slots hcx _ _ _ _ _ _ _ K => W.lcmp hcx.1 hcx.2.1 hd K⟩
    · cases e
theorem zs_dup (hd : decode (zeCod i) pc = .ok (.dup, 1)) (hn : pc + 1 = n) : zeSnd G i pc (zoDup n) := by
  subst hn
  refine zs_st (fun L st μ x e => ?_) fun L st μ pc' L' st' μ' e => ?_
  · unfold zoDup at e
    split at e
    · rename_i v st'
      cases hv : zeCat1 v <;> rw [hv] at e
      · cases e
      · cases zeNx_i e
    · cases e
  · unfold zoDup at e
    split at e
    · rename_i v st'
      cases hv : zeCat1 v <;> rw [hv] at e
      · cases e
      · cases zeNx_i e
        exact ⟨rfl, true, rfl, fun _ _ p l e R s m args below meth c Q H locs ls cells slots hcx _ _ _ _ _ _ _ K => lv_dup hcx.1 hcx.2.1 hd (zeTr_cat hcx.gv hv) K⟩
    · cases e
theorem zs_pop (hd : decode (zeCod i) pc = .ok (.pop, 1)) (hn : pc + 1 = n) : zeSnd G i pc (zoPop n) := by
  subst hn
  refine zs_st (fun L st μ x e => ?_) fun L st μ pc' L' st' μ' e => ?_
  · unfold zoPop at e
    split at e
    · rename_i v st'
      cases hv : zeCat1 v <;> rw [hv] at e
      · cases e
      · cases zeNx_i e
    · cases e
  · unfold zoPop at e
    split at e
    · rename_i v st'
      cases hv : zeCat1 v <;> rw [hv] at e
      · cases e
      · cases zeNx_i e
        exact ⟨rfl, true, rfl, fun _ _ p l e R s m args below meth c Q H locs ls cells slots hcx _ _ _ _ _ _ _ K => lv_pop hcx.1 hcx.2.1 hd (zeTr_cat hcx.gv hv) K⟩
    · cases e
theorem zs_dup2 (hd : decode (zeCod i) pc = .ok (.dup2, 1)) (hn : pc + 1 = n) : zeSnd G i pc (zoDup2 n) := by
  subst hn
  refine zs_st (fun L st μ x e => ?_) fun L st μ pc' L' st' μ' e => ?_
  · unfold zoDup2 at e
    split at e
    · rename_i v w st'
      cases hv : (zeCat1 v && zeCat1 w) <;> rw [hv] at e
      · cases e
      · cases zeNx_i e
    · cases e
  · unfold zoDup2 at e
    split at e
    · rename_i v w st'
      cases hv : (zeCat1 v && zeCat1 w) <;> rw [hv] at e
      · cases e
      · cases zeNx_i e
        rw [Bool.and_eq_true] at hv
        exact ⟨rfl, true, rfl, fun _ _ p l e R s m args below meth c Q H locs ls cells slots hcx _ _ _ _ _ _ _ K => lv_dup2_11 hcx.1 hcx.2.1 hd (zeTr_cat hcx.gv hv.1) (zeTr_cat hcx.gv hv.2) K⟩
    · cases e
theorem zs_dup_x1 (hd : decode (zeCod i) pc = .ok (.dup_x1, 1)) (hn : pc + 1 = n) : zeSnd G i pc (zoDupX1 n) := by
  subst hn
  refine zs_st (fun L st μ x e => ?_) fun L st μ pc' L' st' μ' e => ?_
  · unfold zoDupX1 at e
    split at e
    · rename_i v w st'
      cases hv : (zeCat1 v && zeCat1 w) <;> rw [hv] at e
      · cases e
      · cases zeNx_i e
    · cases e
  · unfold zoDupX1 at e
    split at e
    · rename_i v w st'
      cases hv : (zeCat1 v && zeCat1 w) <;> rw [hv] at e
      · cases e
      · cases zeNx_i e
        rw [Bool.and_eq_true] at hv
        exact ⟨rfl, true, rfl, fun _ _ p l e R s m args below meth c Q H locs ls cells slots hcx _ _ _ _ _ _ _ K => lv_dup_x1 hcx.1 hcx.2.1 hd (zeTr_cat hcx.gv hv.1) (zeTr_cat hcx.gv hv.2) K⟩
    · cases e
end ZS
