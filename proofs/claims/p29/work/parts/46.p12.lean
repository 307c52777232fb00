/-! pure: L_safe -/
/-! L_safe -/
theorem d_197_0 {B : zeB} {im : Nat → Nat → Int32} {lm : Nat → Nat → Int64} (l1 : Int32) (o2 : Option Value) (o3 : Option Value) (o4 : Option Value) (o5 : Option Value)  : zeRun 197 0 [some (.ref 16), some (.int l1), o2, o3, o4, o5] [] (zk B im lm) = zeBh 197 9 [some (.ref 16), some (.int l1), some (.int (-99999999)), o3, o4, o5] [] (zeRun 156 0 [some (.ref 16), some (.int l1), some (.int 0)] [] (zk B im lm)) := ze_call (ok := true) rfl 6 rfl rfl rfl
theorem d_197_9 {B : zeB} {im : Nat → Nat → Int32} {lm : Nat → Nat → Int64} (l1 : Int32) (l2 : Int32) (o3 : Option Value) (o4 : Option Value) (o5 : Option Value) (s0 : Int32)  : zeRun 197 9 [some (.ref 16), some (.int l1), some (.int l2), o3, o4, o5] [.int s0] (zk B im lm) = zeRun 197 13 [some (.ref 16), some (.int l1), some (.int l2), some (.int s0), some (.int 0), o5] [] (zk B im lm) := ze_go (ok := true) rfl 3 rfl rfl
theorem d_197_13 {B : zeB} {im : Nat → Nat → Int32} {lm : Nat → Nat → Int64} (l1 : Int32) (l2 : Int32) (l3 : Int32) (l4 : Int32) (o5 : Option Value)  : zeRun 197 13 [some (.ref 16), some (.int l1), some (.int l2), some (.int l3), some (.int l4), o5] [] (zk B im lm) = zeBh 197 20 [some (.ref 16), some (.int l1), some (.int l2), some (.int l3), some (.int l4), o5] [.int l4] (zeRun 177 0 [some (.ref 16), some (.int 1)] [] (zk B im lm)) := ze_call (ok := true) rfl 4 rfl rfl rfl
theorem d_197_20 {B : zeB} {im : Nat → Nat → Int32} {lm : Nat → Nat → Int64} (l1 : Int32) (l2 : Int32) (l3 : Int32) (l4 : Int32) (o5 : Option Value) (s0 : Int32) (s1 : Int32)  : zeRun 197 20 [some (.ref 16), some (.int l1), some (.int l2), some (.int l3), some (.int l4), o5] [.int s1, .int s0] (zk B im lm) = if s1 ≤ s0 then zeRun 197 73 [some (.ref 16), some (.int l1), some (.int l2), some (.int l3), some (.int l4), o5] [] (zk B im lm) else zeRun 197 23 [some (.ref 16), some (.int l1), some (.int l2), some (.int l3), some (.int l4), o5] [] (zk B im lm) := ze_if (ok := true) rfl 1 rfl rfl
theorem d_197_73 {B : zeB} {im : Nat → Nat → Int32} {lm : Nat → Nat → Int64} (l1 : Int32) (l2 : Int32) (l3 : Int32) (o4 : Option Value) (o5 : Option Value)  : zeRun 197 73 [some (.ref 16), some (.int l1), some (.int l2), some (.int l3), o4, o5] [] (zk B im lm) = zeBh 197 78 [some (.ref 16), some (.int l1), some (.int l2), some (.int l3), o4, o5] [] (zeRun 113 0 [some (.ref 16), some (.int l1), none, none, none] [] (zk B im lm)) := ze_call (ok := true) rfl 3 rfl rfl rfl
theorem d_197_78 {B : zeB} {im : Nat → Nat → Int32} {lm : Nat → Nat → Int64} (o0 : Option Value) (o1 : Option Value) (l2 : Int32) (l3 : Int32) (o4 : Option Value) (o5 : Option Value) (s0 : Int32)  : zeRun 197 78 [o0, o1, some (.int l2), some (.int l3), o4, o5] [.int s0] (zk B im lm) = if l3 ≤ 0 then zeRun 197 95 [o0, o1, some (.int l2), some (.int l3), some (.int s0), o5] [] (zk B im lm) else zeRun 197 84 [o0, o1, some (.int l2), some (.int l3), some (.int s0), o5] [] (zk B im lm) := ze_if (ok := true) rfl 3 rfl rfl
theorem d_197_95 {B : zeB} {im : Nat → Nat → Int32} {lm : Nat → Nat → Int64} (o0 : Option Value) (o1 : Option Value) (l2 : Int32) (l3 : Int32) (l4 : Int32) (o5 : Option Value)  : zeRun 197 95 [o0, o1, some (.int l2), some (.int l3), some (.int l4), o5] [] (zk B im lm) = zeRun 197 96 [o0, o1, some (.int l2), some (.int l3), some (.int l4), o5] [.int 0] (zk B im lm) := ze_go (ok := true) rfl 1 rfl rfl
theorem d_197_84 {B : zeB} {im : Nat → Nat → Int32} {lm : Nat → Nat → Int64} (o0 : Option Value) (o1 : Option Value) (l2 : Int32) (l3 : Int32) (l4 : Int32) (o5 : Option Value)  : zeRun 197 84 [o0, o1, some (.int l2), some (.int l3), some (.int l4), o5] [] (zk B im lm) = if (2 * l3) ≤ l2 then zeRun 197 95 [o0, o1, some (.int l2), some (.int l3), some (.int l4), o5] [] (zk B im lm) else zeRun 197 91 [o0, o1, some (.int l2), some (.int l3), some (.int l4), o5] [] (zk B im lm) := ze_if (ok := true) rfl 5 rfl rfl
theorem d_197_91 {B : zeB} {im : Nat → Nat → Int32} {lm : Nat → Nat → Int64} (o0 : Option Value) (o1 : Option Value) (l2 : Int32) (l3 : Int32) (l4 : Int32) (o5 : Option Value)  : zeRun 197 91 [o0, o1, some (.int l2), some (.int l3), some (.int l4), o5] [] (zk B im lm) = zeRun 197 96 [o0, o1, some (.int l2), some (.int l3), some (.int l4), o5] [.int 1] (zk B im lm) := ze_go (ok := true) rfl 2 rfl rfl
theorem d_197_23 {B : zeB} {im : Nat → Nat → Int32} {lm : Nat → Nat → Int64} (l1 : Int32) (l2 : Int32) (l3 : Int32) (l4 : Int32) (o5 : Option Value)  : zeRun 197 23 [some (.ref 16), some (.int l1), some (.int l2), some (.int l3), some (.int l4), o5] [] (zk B im lm) = zeBh 197 30 [some (.ref 16), some (.int l1), some (.int l2), some (.int l3), some (.int l4), o5] [] (zeRun 156 0 [some (.ref 16), some (.int l4), some (.int 0)] [] (zk B im lm)) := ze_call (ok := true) rfl 4 rfl rfl rfl
theorem d_197_30 {B : zeB} {im : Nat → Nat → Int32} {lm : Nat → Nat → Int64} (l1 : Int32) (l2 : Int32) (l3 : Int32) (l4 : Int32) (o5 : Option Value) (s0 : Int32)  : zeRun 197 30 [some (.ref 16), some (.int l1), some (.int l2), some (.int l3), some (.int l4), o5] [.int s0] (zk B im lm) = if s0 ≤ 0 then zeRun 197 44 [some (.ref 16), some (.int l1), some (.int l2), some (.int l3), some (.int l4), some (.int s0)] [] (zk B im lm) else zeRun 197 37 [some (.ref 16), some (.int l1), some (.int l2), some (.int l3), some (.int l4), some (.int s0)] [] (zk B im lm) := ze_if (ok := true) rfl 3 rfl rfl
theorem d_197_44 {B : zeB} {im : Nat → Nat → Int32} {lm : Nat → Nat → Int64} (l1 : Int32) (l2 : Int32) (l3 : Int32) (l4 : Int32) (l5 : Int32)  : zeRun 197 44 [some (.ref 16), some (.int l1), some (.int l2), some (.int l3), some (.int l4), some (.int l5)] [] (zk B im lm) = zeRun 197 46 [some (.ref 16), some (.int l1), some (.int l2), some (.int l3), some (.int l4), some (.int l5)] [.int l5] (zk B im lm) := ze_go (ok := true) rfl 1 rfl rfl
theorem d_197_37 {B : zeB} {im : Nat → Nat → Int32} {lm : Nat → Nat → Int64} (l1 : Int32) (l2 : Int32) (l3 : Int32) (l4 : Int32) (l5 : Int32)  : zeRun 197 37 [some (.ref 16), some (.int l1), some (.int l2), some (.int l3), some (.int l4), some (.int l5)] [] (zk B im lm) = zeRun 197 46 [some (.ref 16), some (.int l1), some (.int l2), some (.int l3), some (.int l4), some (.int l5)] [.int (2 * l5)] (zk B im lm) := ze_go (ok := true) rfl 4 rfl rfl
theorem d_197_46 {B : zeB} {im : Nat → Nat → Int32} {lm : Nat → Nat → Int64} (l1 : Int32) (l2 : Int32) (l3 : Int32) (l4 : Int32) (o5 : Option Value) (s0 : Int32)  : zeRun 197 46 [some (.ref 16), some (.int l1), some (.int l2), some (.int l3), some (.int l4), o5] [.int s0] (zk B im lm) = if l4 = l1 then zeRun 197 65 [some (.ref 16), some (.int l1), some (.int l2), some (.int l3), some (.int l4), some (.int s0)] [] (zk B im lm) else zeRun 197 54 [some (.ref 16), some (.int l1), some (.int l2), some (.int l3), some (.int l4), some (.int s0)] [] (zk B im lm) := ze_if (ok := true) rfl 4 rfl rfl
theorem d_197_65 {B : zeB} {im : Nat → Nat → Int32} {lm : Nat → Nat → Int64} (l1 : Int32) (l2 : Int32) (l3 : Int32) (l4 : Int32) (o5 : Option Value)  : zeRun 197 65 [some (.ref 16), some (.int l1), some (.int l2), some (.int l3), some (.int l4), o5] [] (zk B im lm) = zeRun 197 13 [some (.ref 16), some (.int l1), some (.int l2), some (.int l3), some (.int (l4 + 1)), o5] [] (zk B im lm) := ze_go (ok := true) rfl 4 rfl rfl
theorem d_197_54 {B : zeB} {im : Nat → Nat → Int32} {lm : Nat → Nat → Int64} (l1 : Int32) (l2 : Int32) (l3 : Int32) (l4 : Int32) (l5 : Int32)  : zeRun 197 54 [some (.ref 16), some (.int l1), some (.int l2), some (.int l3), some (.int l4), some (.int l5)] [] (zk B im lm) = if l5 ≤ l2 then zeRun 197 65 [some (.ref 16), some (.int l1), some (.int l2), some (.int l3), some (.int l4), some (.int l5)] [] (zk B im lm) else zeRun 197 60 [some (.ref 16), some (.int l1), some (.int l2), some (.int l3), some (.int l4), some (.int l5)] [] (zk B im lm) := ze_if (ok := true) rfl 3 rfl rfl
theorem d_197_60 {B : zeB} {im : Nat → Nat → Int32} {lm : Nat → Nat → Int64} (l1 : Int32) (o2 : Option Value) (l3 : Int32) (l4 : Int32) (l5 : Int32)  : zeRun 197 60 [some (.ref 16), some (.int l1), o2, some (.int l3), some (.int l4), some (.int l5)] [] (zk B im lm) = zeRun 197 13 [some (.ref 16), some (.int l1), some (.int l5), some (.int l3), some (.int (l4 + 1)), some (.int l5)] [] (zk B im lm) := ze_go (ok := true) rfl 5 rfl rfl
theorem d_197_96 {B : zeB} {im : Nat → Nat → Int32} {lm : Nat → Nat → Int64} (o0 : Option Value) (o1 : Option Value) (l2 : Int32) (l3 : Int32) (l4 : Int32) (o5 : Option Value) (s0 : Int32)  : zeRun 197 96 [o0, o1, some (.int l2), some (.int l3), some (.int l4), o5] [.int s0] (zk B im lm) = if s0 = 0 then zeRun 197 145 [o0, o1, some (.int l2), some (.int l3), some (.int l4), some (.int s0)] [] (zk B im lm) else zeRun 197 103 [o0, o1, some (.int l2), some (.int l3), some (.int l4), some (.int s0)] [] (zk B im lm) := ze_if (ok := true) rfl 3 rfl rfl
theorem d_197_145 {B : zeB} {im : Nat → Nat → Int32} {lm : Nat → Nat → Int64} (o0 : Option Value) (o1 : Option Value) (o2 : Option Value) (o3 : Option Value) (l4 : Int32) (o5 : Option Value)  : zeRun 197 145 [o0, o1, o2, o3, some (.int l4), o5] [] (zk B im lm) = if l4 = (-10000005) then zeRun 197 152 [o0, o1, o2, o3, some (.int l4), o5] [] (zk B im lm) else zeRun 197 156 [o0, o1, o2, o3, some (.int l4), o5] [] (zk B im lm) := ze_if (ok := true) rfl 3 rfl rfl
theorem d_197_152 {B : zeB} {im : Nat → Nat → Int32} {lm : Nat → Nat → Int64} (o0 : Option Value) (o1 : Option Value) (o2 : Option Value) (o3 : Option Value) (o4 : Option Value) (o5 : Option Value)  : zeRun 197 152 [o0, o1, o2, o3, o4, o5] [] (zk B im lm) = some (some (.int 1), (zk B im lm)) := ze_ret (ok := true) rfl 3 rfl rfl
theorem d_197_156 {B : zeB} {im : Nat → Nat → Int32} {lm : Nat → Nat → Int64} (o0 : Option Value) (o1 : Option Value) (o2 : Option Value) (o3 : Option Value) (o4 : Option Value) (o5 : Option Value)  : zeRun 197 156 [o0, o1, o2, o3, o4, o5] [] (zk B im lm) = some (some (.int 0), (zk B im lm)) := ze_ret (ok := true) rfl 2 rfl rfl
theorem d_197_103 {B : zeB} {im : Nat → Nat → Int32} {lm : Nat → Nat → Int64} (o0 : Option Value) (o1 : Option Value) (l2 : Int32) (l3 : Int32) (l4 : Int32) (o5 : Option Value)  : zeRun 197 103 [o0, o1, some (.int l2), some (.int l3), some (.int l4), o5] [] (zk B im lm) = if l4 < 0 then zeRun 197 141 [o0, o1, some (.int l2), some (.int l3), some (.int l4), o5] [] (zk B im lm) else zeRun 197 108 [o0, o1, some (.int l2), some (.int l3), some (.int l4), o5] [] (zk B im lm) := ze_if (ok := true) rfl 2 rfl rfl
theorem d_197_141 {B : zeB} {im : Nat → Nat → Int32} {lm : Nat → Nat → Int64} (o0 : Option Value) (o1 : Option Value) (o2 : Option Value) (o3 : Option Value) (o4 : Option Value) (o5 : Option Value)  : zeRun 197 141 [o0, o1, o2, o3, o4, o5] [] (zk B im lm) = some (some (.int 0), (zk B im lm)) := ze_ret (ok := true) rfl 3 rfl rfl
theorem d_197_108 {B : zeB} {im : Nat → Nat → Int32} {lm : Nat → Nat → Int64} (o0 : Option Value) (o1 : Option Value) (l2 : Int32) (l3 : Int32) (l4 : Int32) (o5 : Option Value)  : zeRun 197 108 [o0, o1, some (.int l2), some (.int l3), some (.int l4), o5] [] (zk B im lm) = if l3 < l4 then zeRun 197 141 [o0, o1, some (.int l2), some (.int l3), some (.int l4), o5] [] (zk B im lm) else zeRun 197 114 [o0, o1, some (.int l2), some (.int l3), some (.int l4), o5] [] (zk B im lm) := ze_if (ok := true) rfl 3 rfl rfl
theorem d_197_114 {B : zeB} {im : Nat → Nat → Int32} {lm : Nat → Nat → Int64} (o0 : Option Value) (o1 : Option Value) (l2 : Int32) (l3 : Int32) (l4 : Int32) (o5 : Option Value)  : zeRun 197 114 [o0, o1, some (.int l2), some (.int l3), some (.int l4), o5] [] (zk B im lm) = if (l3 + l4) ≤ l2 then zeRun 197 141 [o0, o1, some (.int l2), some (.int l3), some (.int l4), o5] [] (zk B im lm) else zeRun 197 122 [o0, o1, some (.int l2), some (.int l3), some (.int l4), o5] [] (zk B im lm) := ze_if (ok := true) rfl 5 rfl rfl
theorem d_197_122 {B : zeB} {im : Nat → Nat → Int32} {lm : Nat → Nat → Int64} (o0 : Option Value) (o1 : Option Value) (l2 : Int32) (l3 : Int32) (l4 : Int32) (o5 : Option Value)  : zeRun 197 122 [o0, o1, some (.int l2), some (.int l3), some (.int l4), o5] [] (zk B im lm) = if l4 = 0 then zeRun 197 137 [o0, o1, some (.int l2), some (.int l3), some (.int l4), o5] [] (zk B im lm) else zeRun 197 127 [o0, o1, some (.int l2), some (.int l3), some (.int l4), o5] [] (zk B im lm) := ze_if (ok := true) rfl 2 rfl rfl
theorem d_197_137 {B : zeB} {im : Nat → Nat → Int32} {lm : Nat → Nat → Int64} (o0 : Option Value) (o1 : Option Value) (o2 : Option Value) (o3 : Option Value) (o4 : Option Value) (o5 : Option Value)  : zeRun 197 137 [o0, o1, o2, o3, o4, o5] [] (zk B im lm) = some (some (.int 1), (zk B im lm)) := ze_ret (ok := true) rfl 3 rfl rfl
theorem d_197_127 {B : zeB} {im : Nat → Nat → Int32} {lm : Nat → Nat → Int64} (o0 : Option Value) (o1 : Option Value) (l2 : Int32) (l3 : Int32) (l4 : Int32) (o5 : Option Value)  : zeRun 197 127 [o0, o1, some (.int l2), some (.int l3), some (.int l4), o5] [] (zk B im lm) = if l2 < ((l3 + l4) - 1) then zeRun 197 141 [o0, o1, some (.int l2), some (.int l3), some (.int l4), o5] [] (zk B im lm) else zeRun 197 137 [o0, o1, some (.int l2), some (.int l3), some (.int l4), o5] [] (zk B im lm) := ze_if (ok := true) rfl 7 rfl rfl
def J_197_96  (l2 : Int32) (l3 : Int32) (l4 : Int32) (s0 : Int32) (im : zI) (lm : zJ) : zR :=
    some (if s0 = 0 then if l4 = (-10000005) then 1 else 0 else if l4 < 0 then 0 else if l3 < l4 then 0 else if (l3 + l4) ≤ l2 then 0 else if l4 = 0 then 1 else if l2 < ((l3 + l4) - 1) then 0 else 1, im, lm)
theorem J_197_96_ok {B : zeB} (l2 : Int32) (l3 : Int32) (l4 : Int32) (s0 : Int32) (o0 : Option Value) (o1 : Option Value) (o5 : Option Value) (im : zI) (lm : zJ) : zL B 1 (J_197_96  l2 l3 l4 s0 im lm) (zeRun 197 96 [o0, o1, some (.int l2), some (.int l3), some (.int l4), o5] [.int s0] (zk B im lm)) := by
  unfold J_197_96
  refine zL_ifm (d_197_96 _ _ _ _ _ _ _) (fun h => ?_) (fun h => ?_)
  · repeat rw [if_pos h]
    refine zL_ifm (d_197_145 _ _ _ _ _ _) (fun h => ?_) (fun h => ?_)
    · repeat rw [if_pos h]
      exact zL_ret (d_197_152 _ _ _ _ _ _)
    · repeat rw [if_neg h]
      exact zL_ret (d_197_156 _ _ _ _ _ _)
  · repeat rw [if_neg h]
    refine zL_ifm (d_197_103 _ _ _ _ _ _) (fun h => ?_) (fun h => ?_)
    · repeat rw [if_pos h]
      exact zL_ret (d_197_141 _ _ _ _ _ _)
    · repeat rw [if_neg h]
      refine zL_ifm (d_197_108 _ _ _ _ _ _) (fun h => ?_) (fun h => ?_)
      · repeat rw [if_pos h]
        exact zL_ret (d_197_141 _ _ _ _ _ _)
      · repeat rw [if_neg h]
        refine zL_ifm (d_197_114 _ _ _ _ _ _) (fun h => ?_) (fun h => ?_)
        · repeat rw [if_pos h]
          exact zL_ret (d_197_141 _ _ _ _ _ _)
        · repeat rw [if_neg h]
          refine zL_ifm (d_197_122 _ _ _ _ _ _) (fun h => ?_) (fun h => ?_)
          · repeat rw [if_pos h]
            exact zL_ret (d_197_137 _ _ _ _ _ _)
          · repeat rw [if_neg h]
            refine zL_ifm (d_197_127 _ _ _ _ _ _) (fun h => ?_) (fun h => ?_)
            · repeat rw [if_pos h]
              exact zL_ret (d_197_141 _ _ _ _ _ _)
            · repeat rw [if_neg h]
              exact zL_ret (d_197_137 _ _ _ _ _ _)
def J_197_46 (K13 : Int32 → Int32 → Int32 → Int32 → zI → zJ → zR) (l1 : Int32) (l2 : Int32) (l3 : Int32) (l4 : Int32) (s0 : Int32) (im : zI) (lm : zJ) : zR :=
    K13 l1 (if l4 = l1 then l2 else if s0 ≤ l2 then l2 else s0) l3 (l4 + 1) im lm
theorem J_197_46_ok {B : zeB} (K13 : Int32 → Int32 → Int32 → Int32 → zI → zJ → zR) (hK13 : ∀ (l1 : Int32) (l2 : Int32) (l3 : Int32) (l4 : Int32) (o5 : Option Value) (im : zI) (lm : zJ), zL B 1 (K13 l1 l2 l3 l4 im lm) (zeRun 197 13 [some (.ref 16), some (.int l1), some (.int l2), some (.int l3), some (.int l4), o5] [] (zk B im lm))) (l1 : Int32) (l2 : Int32) (l3 : Int32) (l4 : Int32) (s0 : Int32) (o5 : Option Value) (im : zI) (lm : zJ) : zL B 1 (J_197_46 K13 l1 l2 l3 l4 s0 im lm) (zeRun 197 46 [some (.ref 16), some (.int l1), some (.int l2), some (.int l3), some (.int l4), o5] [.int s0] (zk B im lm)) := by
  unfold J_197_46
  refine zL_ifm (d_197_46 _ _ _ _ _ _) (fun h => ?_) (fun h => ?_)
  · repeat rw [if_pos h]
    refine zL_eq (d_197_65 _ _ _ _ _) ?_
    exact hK13 _ _ _ _ _ _ _
  · repeat rw [if_neg h]
    refine zL_ifm (d_197_54 _ _ _ _ _) (fun h => ?_) (fun h => ?_)
    · repeat rw [if_pos h]
      refine zL_eq (d_197_65 _ _ _ _ _) ?_
      exact hK13 _ _ _ _ _ _ _
    · repeat rw [if_neg h]
      refine zL_eq (d_197_60 _ _ _ _ _) ?_
      exact hK13 _ _ _ _ _ _ _
def F_197_13  : Nat → Int32 → Int32 → Int32 → Int32 → zI → zJ → zR
  | 0, _, _, _, _, _, _ => none
  | n + 1, l1, l2, l3, l4, im, lm =>
    zBd (m_177 1 im lm) fun v1 im1 lm1 =>
    if v1 ≤ l4 then
      zBd (m_113 l1 im1 lm1) fun v2 im2 lm2 =>
      J_197_96   l2 l3 v2 (if l3 ≤ 0 then 0 else if (2 * l3) ≤ l2 then 0 else 1) im2 lm2
    else
      zBd (m_156 l4 0 im1 lm1) fun v3 im3 lm3 =>
      J_197_46 (F_197_13  n)  l1 l2 l3 l4 (if v3 ≤ 0 then v3 else (2 * v3)) im3 lm3
theorem F_197_13_ok {B : zeB} : ∀ (n : Nat) (l1 : Int32) (l2 : Int32) (l3 : Int32) (l4 : Int32) (o5 : Option Value) (im : zI) (lm : zJ), zL B 1 (F_197_13  n l1 l2 l3 l4 im lm) (zeRun 197 13 [some (.ref 16), some (.int l1), some (.int l2), some (.int l3), some (.int l4), o5] [] (zk B im lm)) := by
  intro n
  induction n with
  | zero => intros; exact zL_none
  | succ n ih =>
    intro l1 l2 l3 l4 o5 im lm
    unfold F_197_13
    refine zL_bd (d_197_13 _ _ _ _ _) (m_177_ok _ _ _) fun v1 im1 lm1 => ?_
    refine zL_if (d_197_20 _ _ _ _ _ _ _) (fun h => ?_) (fun h => ?_)
    · skip
      refine zL_bd (d_197_73 _ _ _ _ _) (m_113_ok _ _ _) fun v2 im2 lm2 => ?_
      refine zL_ifm (d_197_78 _ _ _ _ _ _ _) (fun h => ?_) (fun h => ?_)
      · repeat rw [if_pos h]
        refine zL_eq (d_197_95 _ _ _ _ _ _) ?_
        exact J_197_96_ok   _ _ _ _ _ _ _ _ _
      · repeat rw [if_neg h]
        refine zL_ifm (d_197_84 _ _ _ _ _ _) (fun h => ?_) (fun h => ?_)
        · repeat rw [if_pos h]
          refine zL_eq (d_197_95 _ _ _ _ _ _) ?_
          exact J_197_96_ok   _ _ _ _ _ _ _ _ _
        · repeat rw [if_neg h]
          refine zL_eq (d_197_91 _ _ _ _ _ _) ?_
          exact J_197_96_ok   _ _ _ _ _ _ _ _ _
    · skip
      refine zL_bd (d_197_23 _ _ _ _ _) (m_156_ok _ _ _ _) fun v3 im3 lm3 => ?_
      refine zL_ifm (d_197_30 _ _ _ _ _ _) (fun h => ?_) (fun h => ?_)
      · repeat rw [if_pos h]
        refine zL_eq (d_197_44 _ _ _ _ _) ?_
        exact J_197_46_ok _ ih  _ _ _ _ _ _ _ _
      · repeat rw [if_neg h]
        refine zL_eq (d_197_37 _ _ _ _ _) ?_
        exact J_197_46_ok _ ih  _ _ _ _ _ _ _ _
def m_197 (l1 : Int32) (im : zI) (lm : zJ) : zR :=
    zBd (m_156 l1 0 im lm) fun v1 im1 lm1 =>
    F_197_13  2000 l1 (-99999999) v1 0 im1 lm1
theorem m_197_ok {B : zeB} (l1 : Int32) (im : zI) (lm : zJ) : zL B 1 (m_197 l1 im lm) (zeRun 197 0 [some (.ref 16), some (.int l1), none, none, none, none] [] (zk B im lm)) := by
  unfold m_197
  refine zL_bd (d_197_0 _ _ _ _ _) (m_156_ok _ _ _ _) fun v1 im1 lm1 => ?_
  refine zL_eq (d_197_9 _ _ _ _ _ _) ?_
  exact F_197_13_ok  _ _ _ _ _ _ _ _
