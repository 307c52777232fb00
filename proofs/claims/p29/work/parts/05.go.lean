/-! LOCALS, THE CONTEXT OF A METHOD, AND WHAT SOUND MEANS -/
def zeLl (G : zeG) : Nat → zeLo → List (Nat × Value)
  | _, [] => []
  | j, none :: l => zeLl G (j + 1) l
  | j, some v :: l => (j, zeTr G v) :: zeLl G (j + 1) l
theorem zeLl_mem (G : zeG) : ∀ (L : zeLo) (j k : Nat) (x : Value), (k, x) ∈ zeLl G j L ↔ ∃ (i : Nat) (v : Value), k = j + i ∧ zeGet L i = some v ∧ x = zeTr G v
  | [], j, k, x => by simp [zeLl, zeGet]
  | none :: l, j, k, x => by
    rw [show zeLl G j (none :: l) = zeLl G (j + 1) l from rfl, zeLl_mem G l (j + 1) k x]
    constructor
    · rintro ⟨i, v, h1, h2, h3⟩
      exact ⟨i + 1, v, by omega, h2, h3⟩
    · rintro ⟨i, v, h1, h2, h3⟩
      cases i with
      | zero => simp [zeGet] at h2
      | succ i => exact ⟨i, v, by omega, h2, h3⟩
  | some w :: l, j, k, x => by
    rw [show zeLl G j (some w :: l) = (j, zeTr G w) :: zeLl G (j + 1) l from rfl, List.mem_cons, zeLl_mem G l (j + 1) k x]
    constructor
    · rintro (h | ⟨i, v, h1, h2, h3⟩)
      · cases h
        exact ⟨0, w, rfl, rfl, rfl⟩
      · exact ⟨i + 1, v, by omega, h2, h3⟩
    · rintro ⟨i, v, h1, h2, h3⟩
      cases i with
      | zero =>
        left
        simp [zeGet] at h2
        subst h2
        simp [h1, h3]
      | succ i => exact Or.inr ⟨i, v, by omega, h2, h3⟩
theorem zeGet_set : ∀ (L : zeLo) (i : Nat) (x : Option Value) (k : Nat), zeGet (zeSet L i x) k = if k = i ∧ i < L.length then x else zeGet L k
  | [], i, x, k => by simp [zeSet]
  | v :: l, 0, x, 0 => by simp [zeSet, zeGet]
  | v :: l, 0, x, k + 1 => by simp [zeSet, zeGet]
  | v :: l, i + 1, x, 0 => by simp [zeSet, zeGet]
  | v :: l, i + 1, x, k + 1 => by
    have := zeGet_set l i x k
    simp [zeSet, zeGet, this]
def zeLH (G : zeG) (ls : Array Slot) (n : Nat) (L : zeLo) : Prop := lv_has ls n (zeLl G 0 L)
theorem zeLH.at {G : zeG} {ls : Array Slot} {n : Nat} {L : zeLo} (h : zeLH G ls n L) {k : Nat} {v : Value} (hk : zeGet L k = some v) : ls[k]? = some (.val (zeTr G v)) := h.2.2 (k, zeTr G v) ((zeLl_mem G L 0 k _).mpr ⟨k, v, by omega, hk, rfl⟩)
/-- no long stands at place k of method i -/
def zeLgF (i k : Nat) : Prop := ¬ zeLg i = k + 1
/-- place k may be written: no long below it -/
def zeLgW (i k : Nat) : Prop := zeLg i = 0 ∨ ¬ zeLg i = k
def zeNL (i : Nat) (L : zeLo) : Prop := ∀ k v, zeLgF i k → zeGet L k = some v → zeCat1 v = true
theorem zeNL.set {i : Nat} {L : zeLo} (h : zeNL i L) {k : Nat} {v : Value} (hv : zeCat1 v = true) : zeNL i (zeSet L k (some v)) := by
  intro j w hg hj
  rw [zeGet_set] at hj
  split at hj
  · cases hj
    exact hv
  · exact h j w hg hj
def zeGv (G : zeG) : Prop := ∀ a, ∃ r : Option Nat, zeOv G a = va_rf r
theorem zeTr_rf {G : zeG} (hG : zeGv G) (a : Nat) : ∃ r : Option Nat, zeTr G (.ref a) = va_rf r := by
  by_cases h : a < 16
  · rw [zeTr_o G h]
    exact hG a
  · exact ⟨some (zeAd G a), zeTr_r G (by omega)⟩
theorem zeTr_cat {G : zeG} (hG : zeGv G) {v : Value} (hv : zeCat1 v = true) : (zeTr G v).category = 1 := by
  cases v with
  | ref a =>
    obtain ⟨r, h⟩ := zeTr_rf hG a
    rw [h]
    cases r <;> rfl
  | long x => cases hv
  | double x => cases hv
  | _ => rfl
theorem zeLH.set {G : zeG} (hG : zeGv G) {ls' : Array Slot} {n i k : Nat} {L : zeLo} {v : Value} (hN : zeNL i L) (hg : zeLgW i k) (h : lv_has ls' n ((k, zeTr G v) :: (zeLl G 0 L).filter (fun q => !(q.1 == k) && !(q.1 + 1 == k && q.2.category == 2)))) : zeLH G ls' n (zeSet L k (some v)) := by
  refine ⟨h.1, h.2.1, fun q hq => ?_⟩
  obtain ⟨j, w, e1, e2, e3⟩ := (zeLl_mem G _ 0 q.1 q.2).mp hq
  rw [zeGet_set] at e2
  apply h.2.2
  by_cases hj : j = k ∧ k < L.length
  · rw [if_pos hj] at e2
    cases e2
    obtain ⟨q1, q2⟩ := q
    dsimp only at e1 e3
    subst e3
    rw [show q1 = k by omega]
    exact List.mem_cons_self
  · rw [if_neg hj] at e2
    have hjl : j ≠ k := by
      intro e
      apply hj
      refine ⟨e, ?_⟩
      have : ∀ (L : zeLo) (j : Nat) (w : Value), zeGet L j = some w → j < L.length := by
        intro L
        induction L with
        | nil => intro j w h; simp [zeGet] at h
        | cons a l ih =>
          intro j w h
          cases j with
          | zero => simp
          | succ j => have := ih j w h; simp; omega
      have := this L j w e2
      omega
    refine List.mem_cons_of_mem _ (List.mem_filter.mpr ⟨(zeLl_mem G L 0 q.1 q.2).mpr ⟨j, w, e1, e2, e3⟩, ?_⟩)
    have h1 : ¬ q.1 = k := by omega
    by_cases h3 : q.1 + 1 = k
    · have hc : q.2.category = 1 := by rw [e3]; exact zeTr_cat hG (hN j w (by unfold zeLgF; unfold zeLgW at hg; omega) e2)
      simp [h1, hc]
    · simp [h1, h3]
/-- what the Statement gives of statics, text constants and tables (of this claim) -/
def zeSta (G : zeG) (U : State) (H : Heap) : Prop :=
  va_Z "WagerQuiz" "SETTING_TOPS" "[I" (zeOv G 1) (zeA G) U H ∧ True ∧ True ∧
  True ∧ True ∧ True ∧ va_AO "WagerQuiz$State" U ∧
  va_Nw (.methodLinkNest "WagerQuiz" 9 ⟨"WagerQuiz$State", "<init>", "()V"⟩ "WagerQuiz") U ∧ va_Nw (.methodLinkNest "WagerQuiz$State" 15 ⟨"WagerQuiz$PickedClue", "<init>", "()V"⟩ "WagerQuiz") U ∧ va_Nw (.methodLinkNest "WagerQuiz$State" 29 ⟨"WagerQuiz$Log", "<init>", "()V"⟩ "WagerQuiz") U ∧ va_Nw (.methodLinkNest "WagerQuiz$History" 17 ⟨"WagerQuiz$State", "<init>", "()V"⟩ "WagerQuiz") U ∧ va_Nw (.methodLinkNest "WagerQuiz" 40 ⟨"WagerQuiz$Script", "<init>", "()V"⟩ "WagerQuiz") U ∧ va_Nw (.methodLinkNest "WagerQuiz" 47 ⟨"WagerQuiz$Message", "<init>", "()V"⟩ "WagerQuiz") U ∧ va_Nw (.methodLinkNest "WagerQuiz$Replay" 83 ⟨"WagerQuiz", "isClue", "(I)Z"⟩ "WagerQuiz") U ∧ va_Nw (.fieldLinkNest "WagerQuiz$State" 47 "WagerQuiz" "SETTING_TOPS" "[I" "WagerQuiz") U
theorem zeSta.to {G : zeG} {u U : State} {H H1 : Heap} (hW : u.WarmedH U.vm) (hq : ∀ a : Nat, a < H.size → ¬ zeA G a → H1[a]? = H[a]?) (h : zeSta G u H) : zeSta G U H1 := by
  obtain ⟨h1, h2, h5, h6, h7, h3, h8, h9, h10, h11, h12, h13, h4, h14, h15⟩ := h
  have hvm := hW.alike
  exact ⟨(h1.moved hvm).kept hq, trivial, trivial, trivial, trivial, trivial, h8.moved hvm, h9.warmM hW, h10.warmM hW, h11.warmM hW, h12.warmM hW, h13.warmM hW, h4.warmM hW, h14.warmM hW, h15.warmF hW⟩
/-- the context of a walk of method i -/
def zeCx (G : zeG) (i : Nat) (p : Program) (s : State) (m : MethodId) (args : Array Value) (meth : Method) (c : Code) : Prop :=
  p.tables.exec = Jvm.exec ∧ c.code = zeCod i ∧ c.maxLocals = zeNl i ∧ s.vm.findClass (zeNam i).cls = some m.cls ∧ (∀ w ∈ zeBT, w.before args s = true) ∧ va_K (zeD G) zeCl (zeTY G) s ∧ zeOldA G s s.heap ∧ zeSta G s s.heap ∧ meth.name = (zeNam i).name ∧ (∀ q : Nat, s.heap.size ≤ q → zeA G q) ∧ zeGv G
section CX
variable {G : zeG} {i : Nat} {p : Program} {s : State} {m : MethodId} {args : Array Value} {meth : Method} {c : Code}
theorem zeCx.ml (h : zeCx G i p s m args meth c) : c.maxLocals = zeNl i := h.2.2.1
theorem zeCx.own (h : zeCx G i p s m args meth c) : s.vm.findClass (zeNam i).cls = some m.cls := h.2.2.2.1
theorem zeCx.ws (h : zeCx G i p s m args meth c) : ∀ w ∈ zeBT, w.before args s = true := h.2.2.2.2.1
theorem zeCx.K (h : zeCx G i p s m args meth c) : va_K (zeD G) zeCl (zeTY G) s := h.2.2.2.2.2.1
theorem zeCx.old (h : zeCx G i p s m args meth c) : zeOldA G s s.heap := h.2.2.2.2.2.2.1
theorem zeCx.sta (h : zeCx G i p s m args meth c) : zeSta G s s.heap := h.2.2.2.2.2.2.2.1
theorem zeCx.nm (h : zeCx G i p s m args meth c) : meth.name = (zeNam i).name := h.2.2.2.2.2.2.2.2.1
theorem zeCx.new (h : zeCx G i p s m args meth c) : ∀ q : Nat, s.heap.size ≤ q → zeA G q := h.2.2.2.2.2.2.2.2.2.1
theorem zeCx.gv (h : zeCx G i p s m args meth c) : zeGv G := h.2.2.2.2.2.2.2.2.2.2
end CX
/-- an answer is of the method's type -/
def zeRok (i : Nat) (v : Option Value) : Prop := match zeRt i with
  | none => v = none
  | some .int => ∃ x, v = some (.int x)
  | some .long => ∃ x, v = some (.long x)
  | some (.object _) => ∃ a, v = some (.ref a) ∧ 16 ≤ a
  | some (.array _) => ∃ a, v = some (.ref a) ∧ 16 ≤ a
  | some ty => ∃ x, v = some (.int x) ∧ narrow ty (.int x) = .int x
/-- from here the machine comes to what the virtual machine says: the answer v, the cells μ' -/
def zeGO (G : zeG) (i : Nat) (v : Option Value) (μ' : zeM) (pc : Nat) (L : zeLo) (st : List Value) (μ : zeM) : Prop :=
  ∀ (p : Program) (l : Launch) (e : Env) (R : Room) (s : State) (m : MethodId) (args : Array Value) (below : List Frame) (meth : Method) (c : Code) (Q : State → Prop) (n0 s0 : Nat),
    zeCx G i p s m args meth c → zeDp i ≤ R.frames → zeLc i ≤ R.locals → n0 ≤ zeN μ → s0 ≤ zeSl μ →
    (∀ (H : Heap) (locs : List Loc) (ls : Array Slot) (pcr : Nat), zeRok i v → decode (zeCod i) pcr = .ok (zeRk i, 1) → zePic G μ' H → va_S (zeA G) s.heap H locs → W p l e R s m args below meth c H locs (zeN μ' - n0) (zeSl μ' - s0) Q (F0 m pcr ls ((v.map (zeTr G)).toList))) →
    zeN μ' - n0 ≤ R.cells → zeSl μ' - s0 ≤ R.slots →
    ∀ (H : Heap) (locs : List Loc) (ls : Array Slot), zePic G μ H → va_S (zeA G) s.heap H locs → zeLH G ls (zeNl i) L → zeNL i L →
      W p l e R s m args below meth c H locs (zeN μ - n0) (zeSl μ - s0) Q (F0 m pc ls (st.map (zeTr G)))
def zeSnd (G : zeG) (i pc : Nat) (op : zeOp) : Prop := ∀ (L : zeLo) (st : List Value) (μ : zeM),
  (∀ pc' L' st' μ', op L st μ = some (.inl (pc', L', st', μ')) → zeMon μ μ' ∧ (μ'.1 = true → zeWf G μ → zeWf G μ' ∧ ∀ v μ'', zeMon μ' μ'' → zeGO G i v μ'' pc' L' st' μ' → zeGO G i v μ'' pc L st μ)) ∧
  (∀ v μ', op L st μ = some (.inr (.inl (v, μ'))) → zeMon μ μ' ∧ (μ'.1 = true → zeWf G μ → zeWf G μ' ∧ zeGO G i v μ' pc L st μ)) ∧
  (∀ j as pc' L' st' μ', op L st μ = some (.inr (.inr (j, as, pc', L', st', μ'))) → μ' = μ ∧ ∀ v1 μ1 v μ'', zeMon μ μ1 → zeMon μ1 μ'' → zeWf G μ → zeGO G j v1 μ1 0 (zeEnt (zeNl j) as) [] μ → zeGO G i v μ'' pc' L' (v1.toList ++ st') μ1 → zeGO G i v μ'' pc L st μ)
/-- an op that leaves the cells as they are, but for a check: its walk, one machine step -/
theorem zeSnd_of {G : zeG} {i pc : Nat} {op : zeOp} (hn : ∀ L st μ x, op L st μ ≠ some (.inr x))
    (hs : ∀ L st μ pc' L' st' μ', op L st μ = some (.inl (pc', L', st', μ')) → ∃ b, μ' = zeCk b μ ∧ (b = true → zeWf G μ → ∀ (p : Program) (l : Launch) (e : Env) (R : Room) (s : State) (m : MethodId) (args : Array Value) (below : List Frame) (meth : Method) (c : Code) (Q : State → Prop) (H : Heap) (locs : List Loc) (ls : Array Slot) (cells slots : Nat),
      zeCx G i p s m args meth c → zeDp i ≤ R.frames → zeLc i ≤ R.locals → cells ≤ R.cells → slots ≤ R.slots → zePic G μ H → va_S (zeA G) s.heap H locs → zeLH G ls (zeNl i) L → zeNL i L →
      (∀ ls', zeLH G ls' (zeNl i) L' → zeNL i L' → W p l e R s m args below meth c H locs cells slots Q (F0 m pc' ls' (st'.map (zeTr G)))) → W p l e R s m args below meth c H locs cells slots Q (F0 m pc ls (st.map (zeTr G))))) : zeSnd G i pc op := by
  intro L st μ
  refine ⟨fun pc' L' st' μ' h => ?_, fun v μ' h => absurd h (hn _ _ _ _), fun j as pc' L' st' μ' h => absurd h (hn _ _ _ _)⟩
  obtain ⟨b, rfl, hb⟩ := hs L st μ pc' L' st' μ' h
  refine ⟨zeMon.ck b μ, fun h1 hw => ⟨hw, fun v μ'' hm hgo => ?_⟩⟩
  intro p l e R s m args below meth c Q n0 s0 hcx hd hl hn0 hs0 hret hc hs H locs ls hP hS hL hN
  have hm' : zeMon μ μ'' := (zeMon.ck b μ).tr hm
  refine hb (zeCk_b h1) hw p l e R s m args below meth c Q H locs ls _ _ hcx hd hl (by have := hm'.2.1; omega) (by have := hm'.2.2; omega) hP hS hL hN fun ls' hL' hN' => ?_
  exact hgo p l e R s m args below meth c Q n0 s0 hcx hd hl hn0 hs0 hret hc hs H locs ls' hP hS hL' hN'
