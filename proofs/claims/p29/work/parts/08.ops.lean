/-! SOUND OPS: a long's local, switches, reads of fields and arrays -/
section ZR
variable {G : zeG} {i pc n t k : Nat}
theorem zeGet_lt : ∀ {L : zeLo} {j : Nat} {w : Value}, zeGet L j = some w → j < L.length
  | [], j, w, h => by simp [zeGet] at h
  | a :: l, 0, w, h => by simp
  | a :: l, j + 1, w, h => by
    have := zeGet_lt (L := l) (j := j) (w := w) h
    simp
    omega
theorem zeSet_len : ∀ (L : zeLo) (k : Nat) (x : Option Value), (zeSet L k x).length = L.length
  | [], _, _ => rfl
  | _ :: l, 0, _ => rfl
  | _ :: l, k + 1, x => by simp [zeSet, zeSet_len l k x]
theorem zs_lstore_n {f : Fin 4} (hg : zeLg i = k + 1) (hk : k + 1 < zeNl i) (hd : decode (zeCod i) pc = .ok (.lstore_n f, 1)) (hf : (f : Nat) = k) (hn : pc + 1 = n) : zeSnd G i pc (zoLs k n) := by
  subst hn
  refine zeSnd_of (fun L st μ x e => ?_) fun L st μ pc' L' st' μ' e => ?_
  · unfold zoLs at e
    split at e
    · cases hv : zeNoL L k <;> rw [hv] at e
      · cases e
      · cases zeNx_i e
    · cases e
  · unfold zoLs at e
    split at e
    · rename_i x st'
      cases hv : zeNoL L k <;> rw [hv] at e
      · cases e
      · cases zeNx_i e
        refine ⟨true, rfl, fun _ _ p l e R s m args below meth c Q H locs ls cells slots hcx _ _ _ _ _ _ hL hN K => ?_⟩
        refine lv_lstore_n hcx.1 hcx.2.1 hd hf hL hk rfl fun ls' h' => K ls' ⟨h'.1, h'.2.1, fun q hq => ?_⟩ (fun k2 v2 h2 h3 => by
          rw [zeGet_set] at h3
          split at h3
          · cases h3
          · rw [zeGet_set] at h3
            split at h3
            · rename_i g9
              exact absurd (by rw [hg, g9.1]) h2
            · exact hN k2 v2 h2 h3)
        obtain ⟨j, w, e1, e2, e3⟩ := (zeLl_mem G _ 0 q.1 q.2).mp hq
        rw [zeGet_set] at e2
        split at e2
        · cases e2
        · rename_i hj
          have hl := zeGet_lt e2
          rw [zeGet_set] at e2
          rw [zeSet_len] at hj hl
          apply h'.2.2
          split at e2
          · cases e2
            obtain ⟨q1, q2⟩ := q
            dsimp only at e1 e3
            subst e3
            rename_i hjk
            rw [show q1 = k by omega]
            exact List.mem_cons_self
          · rename_i hjk
            have n1 : j ≠ k := fun e => hjk ⟨e, by omega⟩
            have n2 : j ≠ k + 1 := fun e => hj ⟨e, by omega⟩
            refine List.mem_cons_of_mem _ (List.mem_filter.mpr ⟨(zeLl_mem G L 0 q.1 q.2).mpr ⟨j, w, e1, e2, e3⟩, ?_⟩)
            have h1 : ¬ q.1 = k := by omega
            have h2 : ¬ q.1 = k + 1 := by omega
            by_cases h3 : q.1 + 1 = k
            · have : zeCat1 w = true := by
                subst h3
                rw [show q.1 = j by omega] at hv
                simp only [zeNoL, e2] at hv
                exact hv
              have hc : q.2.category = 1 := by rw [e3]; exact zeTr_cat hcx.gv this
              simp [h1, h2, hc]
            · simp [h1, h2, h3]
    · cases e
/-- a switch -/
theorem zeSw_at {x : Int32} {d : Nat} : ∀ {l : List (Int32 × Nat)} {t : Nat}, (∀ q ∈ l, x ≠ q.1) ∧ t = d ∨ (∃ (j : Nat) (k : Int32), l[j]? = some (k, t) ∧ x = k ∧ ∀ j' : Nat, j' < j → ∀ q : Int32 × Nat, l[j']? = some q → x ≠ q.1) → zeSw x d l = t
  | [], t, h => by
    rcases h with ⟨-, rfl⟩ | ⟨j, k, h, -⟩
    · rfl
    · simp at h
  | (k0, t0) :: l, t, h => by
    unfold zeSw
    rcases h with ⟨h1, rfl⟩ | ⟨j, k, h1, h2, h3⟩
    · rw [if_neg (h1 _ List.mem_cons_self)]
      exact zeSw_at (Or.inl ⟨fun q hq => h1 q (List.mem_cons_of_mem _ hq), rfl⟩)
    · cases j with
      | zero =>
        simp at h1
        rw [if_pos (by rw [h2, h1.1]), h1.2]
      | succ j =>
        rw [if_neg (h3 0 (by omega) _ rfl)]
        exact zeSw_at (Or.inr ⟨j, k, by simpa using h1, h2, fun j' hj' q hq => h3 (j' + 1) (by omega) q (by simpa using hq)⟩)
theorem zs_Sw {l : List (Int32 × Nat)} {d : Nat} (h : ∀ μ rest x, zeTo G i μ pc (zeSw x d l) (.int x :: rest) rest) : zeSnd G i pc (zoSw l d) := by
  refine zs_st (fun L st μ x e => ?_) fun L st μ pc' L' st' μ' e => ?_
  · unfold zoSw at e
    split at e
    · cases zeNx_i e
    · cases e
  · unfold zoSw at e
    split at e
    · cases zeNx_i e
      exact ⟨rfl, true, rfl, fun _ _ => h _ _ _⟩
    · cases e
theorem zs_tswitch {lo hi df : Int} {offs : Array Int} {len d : Nat} {l : List (Int32 × Nat)} (hd : decode (zeCod i) pc = .ok (.tableswitch df lo hi offs, len)) (hdf : (pc : Int) + df = (d : Int)) (hlen : l.length = offs.size ∧ (offs.size : Int) = hi - lo + 1)
    (hl : ∀ j, j < offs.size → ∃ k t off, l[j]? = some (k, t) ∧ k.toInt = lo + j ∧ offs[j]? = some off ∧ (pc : Int) + off = (t : Int)) : zeSnd G i pc (zoSw l d) := by
  refine zs_Sw fun μ rest x p l' e R s m args below meth c Q H locs ls cells slots hcx _ _ _ _ _ _ _ K => ?_
  by_cases h : x.toInt < lo ∨ hi < x.toInt
  · rw [zeSw_at (t := d) (Or.inl ⟨fun q hq e => ?_, rfl⟩)] at K
    · exact lv_tableOut hcx.1 hcx.2.1 hd h hdf K
    · obtain ⟨j, hj⟩ := List.getElem?_of_mem hq
      have hjl : j < offs.size := by rw [← hlen.1]; exact (List.getElem?_eq_some_iff.mp hj).1
      obtain ⟨k, t, off, g1, g2, g3, g4⟩ := hl j hjl
      rw [hj] at g1
      cases g1
      rw [e] at h
      dsimp only at h
      omega
  · have h1 : ¬ x.toInt < lo := fun q => h (Or.inl q)
    have h2 : ¬ hi < x.toInt := fun q => h (Or.inr q)
    have hjl : (x.toInt - lo).toNat < offs.size := by omega
    obtain ⟨k, t, off, g1, g2, g3, g4⟩ := hl _ hjl
    rw [zeSw_at (t := t) (Or.inr ⟨_, k, g1, ?_, fun j' hj' q hq e => ?_⟩)] at K
    · exact lv_tableIn hcx.1 hcx.2.1 hd h1 h2 g3 g4 K
    · apply Int32.toInt_inj.mp
      omega
    · obtain ⟨k', t', off', f1, f2, f3, f4⟩ := hl j' (by omega)
      rw [hq] at f1
      cases f1
      rw [e] at hj' h1
      dsimp only at hj' h1
      omega
/-- a lookupswitch of two keys -/
theorem zs_lswitch2 {df : Int} {a1 o1 a2 o2 : Int} {len d t1 t2 : Nat} {k1 k2 : Int32} (hd : decode (zeCod i) pc = .ok (.lookupswitch df #[(a1, o1), (a2, o2)], len)) (hk : k1.toInt = a1 ∧ k2.toInt = a2 ∧ a1 < a2) (h0 : (pc : Int) + df = (d : Int)) (h1 : (pc : Int) + o1 = (t1 : Int)) (h2 : (pc : Int) + o2 = (t2 : Int)) : zeSnd G i pc (zoSw [(k1, t1), (k2, t2)] d) := by
  refine zs_Sw fun μ rest x p l' e R s m args below meth c Q H locs ls cells slots hcx _ _ _ _ _ _ _ K => ?_
  simp only [zeSw] at K
  have hp : ((#[(a1, o1), (a2, o2)] : Array (Int × Int)).toList.zip ((#[(a1, o1), (a2, o2)] : Array (Int × Int)).toList.drop 1)).all (fun (a, next) => a.1 < next.1) = true := by
    simp [hk.2.2]
  by_cases c1 : x = k1
  · rw [if_pos c1] at K
    exact lv_lookup hcx.1 hcx.2.1 hd hp (by rw [c1, hk.1]; simp [Op.lookupswitch.offset]) h1 K
  · rw [if_neg c1] at K
    by_cases c2 : x = k2
    · rw [if_pos c2] at K
      exact lv_lookup hcx.1 hcx.2.1 hd hp (by rw [show (#[(a1, o1), (a2, o2)] : Array (Int × Int)).toList = [(a1, o1), (a2, o2)] from rfl, lv_osw c1 hk.1, c2, hk.2.1]; simp [Op.lookupswitch.offset]) h2 K
    · rw [if_neg c2] at K
      exact lv_lookup hcx.1 hcx.2.1 hd hp (by rw [show (#[(a1, o1), (a2, o2)] : Array (Int × Int)).toList = [(a1, o1), (a2, o2)] from rfl, lv_osw c1 hk.1, lv_osw c2 hk.2.1]; simp [Op.lookupswitch.offset]) h0 K
end ZR
