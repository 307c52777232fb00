/-! THE RUN of the virtual machine, and that the machine does as it does -/
theorem zeNdT_ok {G : zeG} {k : Nat} {a b : Nat → Nat → Option zeOp} (ha : ∀ i x op, a i x = some op → zeSnd G i x op) (hb : ∀ i x op, b i x = some op → zeSnd G i x op) : ∀ i x op, zeNd k a b i x = some op → zeSnd G i x op := by
  intro i x op h
  unfold zeNd at h
  cases hk : Nat.ble k i <;> rw [hk] at h
  · exact ha i x op h
  · exact hb i x op h
theorem zeLfT_ok {G : zeG} {k : Nat} {t : Nat → Option zeOp} (h : ∀ x op, t x = some op → zeSnd G k x op) : ∀ i x op, zeLf k t (fun _ => none) i x = some op → zeSnd G i x op := by
  intro i x op h1
  unfold zeLf at h1
  cases hk : Nat.beq i k <;> rw [hk] at h1
  · cases h1
  · have := Nat.eq_of_beq_eq_true hk
    subst this
    exact h x op h1
def zeTb : Nat → Nat → Option zeOp := (zeNd 81 (zeNd 36 (zeNd 15 (zeNd 7 (zeNd 3 (zeNd 1 (zeLf 0 zt_0 (fun _ => none)) (zeNd 2 (zeLf 1 zt_1 (fun _ => none)) (zeLf 2 zt_2 (fun _ => none)))) (zeNd 5 (zeNd 4 (zeLf 3 zt_3 (fun _ => none)) (zeLf 4 zt_4 (fun _ => none))) (zeNd 6 (zeLf 5 zt_5 (fun _ => none)) (zeLf 6 zt_6 (fun _ => none))))) (zeNd 11 (zeNd 8 (zeLf 7 zt_7 (fun _ => none)) (zeNd 9 (zeLf 8 zt_8 (fun _ => none)) (zeLf 9 zt_9 (fun _ => none)))) (zeNd 13 (zeNd 12 (zeLf 11 zt_11 (fun _ => none)) (zeLf 12 zt_12 (fun _ => none))) (zeNd 14 (zeLf 13 zt_13 (fun _ => none)) (zeLf 14 zt_14 (fun _ => none)))))) (zeNd 22 (zeNd 18 (zeNd 16 (zeLf 15 zt_15 (fun _ => none)) (zeNd 17 (zeLf 16 zt_16 (fun _ => none)) (zeLf 17 zt_17 (fun _ => none)))) (zeNd 20 (zeNd 19 (zeLf 18 zt_18 (fun _ => none)) (zeLf 19 zt_19 (fun _ => none))) (zeNd 21 (zeLf 20 zt_20 (fun _ => none)) (zeLf 21 zt_21 (fun _ => none))))) (zeNd 29 (zeNd 27 (zeLf 22 zt_22 (fun _ => none)) (zeNd 28 (zeLf 27 zt_27 (fun _ => none)) (zeLf 28 zt_28 (fun _ => none)))) (zeNd 31 (zeNd 30 (zeLf 29 zt_29 (fun _ => none)) (zeLf 30 zt_30 (fun _ => none))) (zeNd 35 (zeLf 31 zt_31 (fun _ => none)) (zeLf 35 zt_35 (fun _ => none))))))) (zeNd 59 (zeNd 52 (zeNd 40 (zeNd 38 (zeLf 36 zt_36 (fun _ => none)) (zeNd 39 (zeLf 38 zt_38 (fun _ => none)) (zeLf 39 zt_39 (fun _ => none)))) (zeNd 42 (zeNd 41 (zeLf 40 zt_40 (fun _ => none)) (zeLf 41 zt_41 (fun _ => none))) (zeNd 43 (zeLf 42 zt_42 (fun _ => none)) (zeLf 43 zt_43 (fun _ => none))))) (zeNd 55 (zeNd 53 (zeLf 52 zt_52 (fun _ => none)) (zeNd 54 (zeLf 53 zt_53 (fun _ => none)) (zeLf 54 zt_54 (fun _ => none)))) (zeNd 57 (zeNd 56 (zeLf 55 zt_55 (fun _ => none)) (zeLf 56 zt_56 (fun _ => none))) (zeNd 58 (zeLf 57 zt_57 (fun _ => none)) (zeLf 58 zt_58 (fun _ => none)))))) (zeNd 73 (zeNd 69 (zeNd 67 (zeLf 59 zt_59 (fun _ => none)) (zeNd 68 (zeLf 67 zt_67 (fun _ => none)) (zeLf 68 zt_68 (fun _ => none)))) (zeNd 71 (zeNd 70 (zeLf 69 zt_69 (fun _ => none)) (zeLf 70 zt_70 (fun _ => none))) (zeNd 72 (zeLf 71 zt_71 (fun _ => none)) (zeLf 72 zt_72 (fun _ => none))))) (zeNd 77 (zeNd 75 (zeNd 74 (zeLf 73 zt_73 (fun _ => none)) (zeLf 74 zt_74 (fun _ => none))) (zeNd 76 (zeLf 75 zt_75 (fun _ => none)) (zeLf 76 zt_76 (fun _ => none)))) (zeNd 79 (zeNd 78 (zeLf 77 zt_77 (fun _ => none)) (zeLf 78 zt_78 (fun _ => none))) (zeNd 80 (zeLf 79 zt_79 (fun _ => none)) (zeLf 80 zt_80 (fun _ => none)))))))) (zeNd 146 (zeNd 108 (zeNd 93 (zeNd 84 (zeNd 82 (zeLf 81 zt_81 (fun _ => none)) (zeNd 83 (zeLf 82 zt_82 (fun _ => none)) (zeLf 83 zt_83 (fun _ => none)))) (zeNd 86 (zeNd 85 (zeLf 84 zt_84 (fun _ => none)) (zeLf 85 zt_85 (fun _ => none))) (zeNd 92 (zeLf 86 zt_86 (fun _ => none)) (zeLf 92 zt_92 (fun _ => none))))) (zeNd 103 (zeNd 97 (zeLf 93 zt_93 (fun _ => none)) (zeNd 98 (zeLf 97 zt_97 (fun _ => none)) (zeLf 98 zt_98 (fun _ => none)))) (zeNd 105 (zeNd 104 (zeLf 103 zt_103 (fun _ => none)) (zeLf 104 zt_104 (fun _ => none))) (zeNd 107 (zeLf 105 zt_105 (fun _ => none)) (zeLf 107 zt_107 (fun _ => none)))))) (zeNd 118 (zeNd 112 (zeNd 109 (zeLf 108 zt_108 (fun _ => none)) (zeNd 110 (zeLf 109 zt_109 (fun _ => none)) (zeLf 110 zt_110 (fun _ => none)))) (zeNd 115 (zeNd 113 (zeLf 112 zt_112 (fun _ => none)) (zeLf 113 zt_113 (fun _ => none))) (zeNd 116 (zeLf 115 zt_115 (fun _ => none)) (zeLf 116 zt_116 (fun _ => none))))) (zeNd 122 (zeNd 120 (zeNd 119 (zeLf 118 zt_118 (fun _ => none)) (zeLf 119 zt_119 (fun _ => none))) (zeNd 121 (zeLf 120 zt_120 (fun _ => none)) (zeLf 121 zt_121 (fun _ => none)))) (zeNd 144 (zeNd 137 (zeLf 122 zt_122 (fun _ => none)) (zeLf 137 zt_137 (fun _ => none))) (zeNd 145 (zeLf 144 zt_144 (fun _ => none)) (zeLf 145 zt_145 (fun _ => none))))))) (zeNd 174 (zeNd 156 (zeNd 151 (zeNd 148 (zeLf 146 zt_146 (fun _ => none)) (zeNd 149 (zeLf 148 zt_148 (fun _ => none)) (zeLf 149 zt_149 (fun _ => none)))) (zeNd 154 (zeNd 153 (zeLf 151 zt_151 (fun _ => none)) (zeLf 153 zt_153 (fun _ => none))) (zeNd 155 (zeLf 154 zt_154 (fun _ => none)) (zeLf 155 zt_155 (fun _ => none))))) (zeNd 166 (zeNd 162 (zeLf 156 zt_156 (fun _ => none)) (zeNd 163 (zeLf 162 zt_162 (fun _ => none)) (zeLf 163 zt_163 (fun _ => none)))) (zeNd 169 (zeNd 168 (zeLf 166 zt_166 (fun _ => none)) (zeLf 168 zt_168 (fun _ => none))) (zeNd 172 (zeLf 169 zt_169 (fun _ => none)) (zeLf 172 zt_172 (fun _ => none)))))) (zeNd 191 (zeNd 177 (zeNd 175 (zeLf 174 zt_174 (fun _ => none)) (zeNd 176 (zeLf 175 zt_175 (fun _ => none)) (zeLf 176 zt_176 (fun _ => none)))) (zeNd 189 (zeNd 186 (zeLf 177 zt_177 (fun _ => none)) (zeLf 186 zt_186 (fun _ => none))) (zeNd 190 (zeLf 189 zt_189 (fun _ => none)) (zeLf 190 zt_190 (fun _ => none))))) (zeNd 195 (zeNd 193 (zeNd 192 (zeLf 191 zt_191 (fun _ => none)) (zeLf 192 zt_192 (fun _ => none))) (zeNd 194 (zeLf 193 zt_193 (fun _ => none)) (zeLf 194 zt_194 (fun _ => none)))) (zeNd 197 (zeNd 196 (zeLf 195 zt_195 (fun _ => none)) (zeLf 196 zt_196 (fun _ => none))) (zeNd 212 (zeLf 197 zt_197 (fun _ => none)) (zeLf 212 zt_212 (fun _ => none)))))))))
theorem zeTb_ok (G : zeG) : ∀ i x op, zeTb i x = some op → zeSnd G i x op := (zeNdT_ok (zeNdT_ok (zeNdT_ok (zeNdT_ok (zeNdT_ok (zeNdT_ok (zeLfT_ok (zt_0_ok G)) (zeNdT_ok (zeLfT_ok (zt_1_ok G)) (zeLfT_ok (zt_2_ok G)))) (zeNdT_ok (zeNdT_ok (zeLfT_ok (zt_3_ok G)) (zeLfT_ok (zt_4_ok G))) (zeNdT_ok (zeLfT_ok (zt_5_ok G)) (zeLfT_ok (zt_6_ok G))))) (zeNdT_ok (zeNdT_ok (zeLfT_ok (zt_7_ok G)) (zeNdT_ok (zeLfT_ok (zt_8_ok G)) (zeLfT_ok (zt_9_ok G)))) (zeNdT_ok (zeNdT_ok (zeLfT_ok (zt_11_ok G)) (zeLfT_ok (zt_12_ok G))) (zeNdT_ok (zeLfT_ok (zt_13_ok G)) (zeLfT_ok (zt_14_ok G)))))) (zeNdT_ok (zeNdT_ok (zeNdT_ok (zeLfT_ok (zt_15_ok G)) (zeNdT_ok (zeLfT_ok (zt_16_ok G)) (zeLfT_ok (zt_17_ok G)))) (zeNdT_ok (zeNdT_ok (zeLfT_ok (zt_18_ok G)) (zeLfT_ok (zt_19_ok G))) (zeNdT_ok (zeLfT_ok (zt_20_ok G)) (zeLfT_ok (zt_21_ok G))))) (zeNdT_ok (zeNdT_ok (zeLfT_ok (zt_22_ok G)) (zeNdT_ok (zeLfT_ok (zt_27_ok G)) (zeLfT_ok (zt_28_ok G)))) (zeNdT_ok (zeNdT_ok (zeLfT_ok (zt_29_ok G)) (zeLfT_ok (zt_30_ok G))) (zeNdT_ok (zeLfT_ok (zt_31_ok G)) (zeLfT_ok (zt_35_ok G))))))) (zeNdT_ok (zeNdT_ok (zeNdT_ok (zeNdT_ok (zeLfT_ok (zt_36_ok G)) (zeNdT_ok (zeLfT_ok (zt_38_ok G)) (zeLfT_ok (zt_39_ok G)))) (zeNdT_ok (zeNdT_ok (zeLfT_ok (zt_40_ok G)) (zeLfT_ok (zt_41_ok G))) (zeNdT_ok (zeLfT_ok (zt_42_ok G)) (zeLfT_ok (zt_43_ok G))))) (zeNdT_ok (zeNdT_ok (zeLfT_ok (zt_52_ok G)) (zeNdT_ok (zeLfT_ok (zt_53_ok G)) (zeLfT_ok (zt_54_ok G)))) (zeNdT_ok (zeNdT_ok (zeLfT_ok (zt_55_ok G)) (zeLfT_ok (zt_56_ok G))) (zeNdT_ok (zeLfT_ok (zt_57_ok G)) (zeLfT_ok (zt_58_ok G)))))) (zeNdT_ok (zeNdT_ok (zeNdT_ok (zeLfT_ok (zt_59_ok G)) (zeNdT_ok (zeLfT_ok (zt_67_ok G)) (zeLfT_ok (zt_68_ok G)))) (zeNdT_ok (zeNdT_ok (zeLfT_ok (zt_69_ok G)) (zeLfT_ok (zt_70_ok G))) (zeNdT_ok (zeLfT_ok (zt_71_ok G)) (zeLfT_ok (zt_72_ok G))))) (zeNdT_ok (zeNdT_ok (zeNdT_ok (zeLfT_ok (zt_73_ok G)) (zeLfT_ok (zt_74_ok G))) (zeNdT_ok (zeLfT_ok (zt_75_ok G)) (zeLfT_ok (zt_76_ok G)))) (zeNdT_ok (zeNdT_ok (zeLfT_ok (zt_77_ok G)) (zeLfT_ok (zt_78_ok G))) (zeNdT_ok (zeLfT_ok (zt_79_ok G)) (zeLfT_ok (zt_80_ok G)))))))) (zeNdT_ok (zeNdT_ok (zeNdT_ok (zeNdT_ok (zeNdT_ok (zeLfT_ok (zt_81_ok G)) (zeNdT_ok (zeLfT_ok (zt_82_ok G)) (zeLfT_ok (zt_83_ok G)))) (zeNdT_ok (zeNdT_ok (zeLfT_ok (zt_84_ok G)) (zeLfT_ok (zt_85_ok G))) (zeNdT_ok (zeLfT_ok (zt_86_ok G)) (zeLfT_ok (zt_92_ok G))))) (zeNdT_ok (zeNdT_ok (zeLfT_ok (zt_93_ok G)) (zeNdT_ok (zeLfT_ok (zt_97_ok G)) (zeLfT_ok (zt_98_ok G)))) (zeNdT_ok (zeNdT_ok (zeLfT_ok (zt_103_ok G)) (zeLfT_ok (zt_104_ok G))) (zeNdT_ok (zeLfT_ok (zt_105_ok G)) (zeLfT_ok (zt_107_ok G)))))) (zeNdT_ok (zeNdT_ok (zeNdT_ok (zeLfT_ok (zt_108_ok G)) (zeNdT_ok (zeLfT_ok (zt_109_ok G)) (zeLfT_ok (zt_110_ok G)))) (zeNdT_ok (zeNdT_ok (zeLfT_ok (zt_112_ok G)) (zeLfT_ok (zt_113_ok G))) (zeNdT_ok (zeLfT_ok (zt_115_ok G)) (zeLfT_ok (zt_116_ok G))))) (zeNdT_ok (zeNdT_ok (zeNdT_ok (zeLfT_ok (zt_118_ok G)) (zeLfT_ok (zt_119_ok G))) (zeNdT_ok (zeLfT_ok (zt_120_ok G)) (zeLfT_ok (zt_121_ok G)))) (zeNdT_ok (zeNdT_ok (zeLfT_ok (zt_122_ok G)) (zeLfT_ok (zt_137_ok G))) (zeNdT_ok (zeLfT_ok (zt_144_ok G)) (zeLfT_ok (zt_145_ok G))))))) (zeNdT_ok (zeNdT_ok (zeNdT_ok (zeNdT_ok (zeLfT_ok (zt_146_ok G)) (zeNdT_ok (zeLfT_ok (zt_148_ok G)) (zeLfT_ok (zt_149_ok G)))) (zeNdT_ok (zeNdT_ok (zeLfT_ok (zt_151_ok G)) (zeLfT_ok (zt_153_ok G))) (zeNdT_ok (zeLfT_ok (zt_154_ok G)) (zeLfT_ok (zt_155_ok G))))) (zeNdT_ok (zeNdT_ok (zeLfT_ok (zt_156_ok G)) (zeNdT_ok (zeLfT_ok (zt_162_ok G)) (zeLfT_ok (zt_163_ok G)))) (zeNdT_ok (zeNdT_ok (zeLfT_ok (zt_166_ok G)) (zeLfT_ok (zt_168_ok G))) (zeNdT_ok (zeLfT_ok (zt_169_ok G)) (zeLfT_ok (zt_172_ok G)))))) (zeNdT_ok (zeNdT_ok (zeNdT_ok (zeLfT_ok (zt_174_ok G)) (zeNdT_ok (zeLfT_ok (zt_175_ok G)) (zeLfT_ok (zt_176_ok G)))) (zeNdT_ok (zeNdT_ok (zeLfT_ok (zt_177_ok G)) (zeLfT_ok (zt_186_ok G))) (zeNdT_ok (zeLfT_ok (zt_189_ok G)) (zeLfT_ok (zt_190_ok G))))) (zeNdT_ok (zeNdT_ok (zeNdT_ok (zeLfT_ok (zt_191_ok G)) (zeLfT_ok (zt_192_ok G))) (zeNdT_ok (zeLfT_ok (zt_193_ok G)) (zeLfT_ok (zt_194_ok G)))) (zeNdT_ok (zeNdT_ok (zeLfT_ok (zt_195_ok G)) (zeLfT_ok (zt_196_ok G))) (zeNdT_ok (zeLfT_ok (zt_197_ok G)) (zeLfT_ok (zt_212_ok G)))))))))
/-- method i from pc on: its answer and the cells behind it -/
def zeRun (i pc : Nat) (L : zeLo) (st : List Value) (μ : zeM) : Option (Option Value × zeM) :=
  match zeTb i pc with
  | none => none
  | some op => match op L st μ with
    | none => none
    | some (.inl (pc', L', st', μ')) => zeRun i pc' L' st' μ'
    | some (.inr (.inl r)) => some r
    | some (.inr (.inr (j, as, pc', L', st', μ'))) => zeRun j 0 (zeEnt (zeNl j) as) [] μ' >>= fun r => zeRun i pc' L' (r.1.toList ++ st') r.2
partial_fixpoint
theorem zeRun_ok (G : zeG) : ∀ (i pc : Nat) (L : zeLo) (st : List Value) (μ : zeM) (r : Option Value × zeM), zeRun i pc L st μ = some r → zeMon μ r.2 ∧ (r.2.1 = true → zeWf G μ → zeWf G r.2 ∧ zeGO G i r.1 r.2 pc L st μ) := by
  apply zeRun.partial_correctness
  intro f ih i pc L st μ r h
  split at h
  · cases h
  · rename_i op hop
    have hs := zeTb_ok G i pc op hop L st μ
    split at h
    · cases h
    · rename_i pc' L' st' μ' ho
      obtain ⟨m1, k1⟩ := hs.1 pc' L' st' μ' ho
      obtain ⟨m2, k2⟩ := ih _ _ _ _ _ _ h
      refine ⟨m1.tr m2, fun hr hw => ?_⟩
      obtain ⟨w1, g1⟩ := k1 (m2.1 hr) hw
      obtain ⟨w2, g2⟩ := k2 hr w1
      exact ⟨w2, g1 _ _ m2 g2⟩
    · rename_i r' ho
      cases h
      obtain ⟨m1, k1⟩ := hs.2.1 r.1 r.2 ho
      exact ⟨m1, k1⟩
    · rename_i j as pc' L' st' μ' ho
      obtain ⟨rfl, k1⟩ := hs.2.2 j as pc' L' st' μ' ho
      cases hc : f j 0 (zeEnt (zeNl j) as) [] μ' with
      | none => rw [hc] at h; cases h
      | some r1 =>
        rw [hc] at h
        obtain ⟨m1, g1⟩ := ih _ _ _ _ _ _ hc
        obtain ⟨m2, g2⟩ := ih _ _ _ _ _ _ h
        refine ⟨m1.tr m2, fun hr hw => ?_⟩
        obtain ⟨w1, e1⟩ := g1 (m2.1 hr) hw
        obtain ⟨w2, e2⟩ := g2 hr w1
        exact ⟨w2, k1 _ _ _ _ m1 m2 hw e1 e2⟩
