/-! pure: X8_runScript, X1_takeLatest, X7_load_44, X7_load_59, X7_load_74, X7_load_89, X7_load_104, X7_load_119, X7_load_135, X7_load_150, X7_undo, X8_undo, X7_isSlot, X7_keep, X8_keep, X7_restore, X8_restore -/
/-! X8_runScript -/
theorem d_143_0 {B : zeB} {im : Nat → Nat → Int32} {lm : Nat → Nat → Int64} (o1 : Option Value) (o2 : Option Value) (o3 : Option Value)  : zeRun 143 0 [some (.ref 170), o1, o2, o3] [] (zk B im lm) = zeBh 143 4 [some (.ref 170), o1, o2, o3] [] (zeRun 140 0 [some (.ref 170), none, none, none, none, none, none, none, none] [] (zk B im lm)) := ze_call (ok := true) rfl 2 rfl rfl rfl
theorem d_143_4 {B : zeB} {im : Nat → Nat → Int32} {lm : Nat → Nat → Int64} (o1 : Option Value) (o2 : Option Value) (o3 : Option Value) (s0 : Int32)  : zeRun 143 4 [some (.ref 170), o1, o2, o3] [.int s0] (zk B im lm) = if s0 < 0 then zeRun 143 14 [some (.ref 170), some (.int s0), o2, o3] [] (zk B im lm) else zeRun 143 9 [some (.ref 170), some (.int s0), o2, o3] [] (zk B im lm) := ze_if (ok := true) rfl 3 rfl rfl
theorem d_143_14 {B : zeB} {im : Nat → Nat → Int32} {lm : Nat → Nat → Int64} (o1 : Option Value) (o2 : Option Value) (o3 : Option Value)  : zeRun 143 14 [some (.ref 170), o1, o2, o3] [] (zk B im lm) = zeBh 143 18 [some (.ref 170), o1, o2, o3] [] (zeRun 25 0 [some (.ref 170), none] [] (zk B im lm)) := ze_call (ok := true) rfl 2 rfl rfl rfl
theorem d_143_18 {B : zeB} {im : Nat → Nat → Int32} {lm : Nat → Nat → Int64} (o1 : Option Value) (o2 : Option Value) (o3 : Option Value)  : zeRun 143 18 [some (.ref 170), o1, o2, o3] [] (zk B im lm) = zeRun 143 22 [some (.ref 170), o1, some (.int 0), some (.int 0)] [] (zk B im lm) := ze_go (ok := true) rfl 4 rfl rfl
theorem d_143_9 {B : zeB} {im : Nat → Nat → Int32} {lm : Nat → Nat → Int64} (o0 : Option Value) (l1 : Int32) (o2 : Option Value) (o3 : Option Value)  : zeRun 143 9 [o0, some (.int l1), o2, o3] [] (zk B im lm) = some (some (.int ((-100) - l1)), (zk B im lm)) := ze_ret (ok := true) rfl 4 rfl rfl
theorem d_143_22 {B : zeB} {im : Nat → Nat → Int32} {lm : Nat → Nat → Int64} (o1 : Option Value) (l2 : Int32) (l3 : Int32)  : zeRun 143 22 [some (.ref 170), o1, some (.int l2), some (.int l3)] [] (zk B im lm) = if l3 < 0 then zeRun 143 80 [some (.ref 170), o1, some (.int l2), some (.int l3)] [] (zk B im lm) else zeRun 143 26 [some (.ref 170), o1, some (.int l2), some (.int l3)] [] (zk B im lm) := ze_if (ok := true) rfl 2 rfl rfl
theorem d_143_80 {B : zeB} {im : Nat → Nat → Int32} {lm : Nat → Nat → Int64} (o0 : Option Value) (o1 : Option Value) (l2 : Int32) (o3 : Option Value)  : zeRun 143 80 [o0, o1, some (.int l2), o3] [] (zk B im lm) = some (some (.int l2), (zk B im lm)) := ze_ret (ok := true) rfl 2 rfl rfl
theorem d_143_26 {B : zeB} {im : Nat → Nat → Int32} {lm : Nat → Nat → Int64} (o1 : Option Value) (l2 : Int32) (o3 : Option Value)  : zeRun 143 26 [some (.ref 170), o1, some (.int l2), o3] [] (zk B im lm) = if (im 170 18) ≤ l2 then zeRun 143 80 [some (.ref 170), o1, some (.int l2), o3] [] (zk B im lm) else zeRun 143 34 [some (.ref 170), o1, some (.int l2), o3] [] (zk B im lm) := ze_if (ok := true) rfl 4 rfl rfl
theorem d_143_34 {B : zeB} {im : Nat → Nat → Int32} {lm : Nat → Nat → Int64} (o1 : Option Value) (l2 : Int32) (o3 : Option Value)  : zeRun 143 34 [some (.ref 170), o1, some (.int l2), o3] [] (zk B im lm) = zeBh 143 41 [some (.ref 170), o1, some (.int l2), o3] [] (zeRun 141 0 [some (.ref 170), some (.int (3 * l2)), none] [] (zk B im lm)) := ze_call (ok := true) rfl 5 rfl rfl rfl
theorem d_143_41 {B : zeB} {im : Nat → Nat → Int32} {lm : Nat → Nat → Int64} (o1 : Option Value) (l2 : Int32) (o3 : Option Value) (s0 : Int32)  : zeRun 143 41 [some (.ref 170), o1, some (.int l2), o3] [.int s0] (zk B im lm) = if s0 < 0 then zeRun 143 53 [some (.ref 170), o1, some (.int l2), some (.int s0)] [] (zk B im lm) else zeRun 143 46 [some (.ref 170), o1, some (.int l2), some (.int s0)] [] (zk B im lm) := ze_if (ok := true) rfl 3 rfl rfl
theorem d_143_46 {B : zeB} {im : Nat → Nat → Int32} {lm : Nat → Nat → Int64} (o1 : Option Value) (l2 : Int32) (l3 : Int32)  : zeRun 143 46 [some (.ref 170), o1, some (.int l2), some (.int l3)] [] (zk B im lm) = zeBh 143 53 [some (.ref 170), o1, some (.int l2), some (.int l3)] [] (zeRun 142 0 [some (.ref 170), some (.int (3 * l2)), none, none] [] (zk B im lm)) := ze_call (ok := true) rfl 5 rfl rfl rfl
theorem d_143_53 {B : zeB} {im : Nat → Nat → Int32} {lm : Nat → Nat → Int64} (o1 : Option Value) (l2 : Int32) (l3 : Int32)  : zeRun 143 53 [some (.ref 170), o1, some (.int l2), some (.int l3)] [] (zk B im lm) = if l3 = (-10000005) then zeRun 143 59 [some (.ref 170), o1, some (.int l2), some (.int l3)] [] (zk B im lm) else zeRun 143 63 [some (.ref 170), o1, some (.int l2), some (.int l3)] [] (zk B im lm) := ze_if (ok := true) rfl 3 rfl rfl
theorem d_143_59 {B : zeB} {im : Nat → Nat → Int32} {lm : Nat → Nat → Int64} (o1 : Option Value) (l2 : Int32) (o3 : Option Value)  : zeRun 143 59 [some (.ref 170), o1, some (.int l2), o3] [] (zk B im lm) = zeRun 143 64 [some (.ref 170), o1, some (.int l2), o3] [.int 0] (zk B im lm) := ze_go (ok := true) rfl 2 rfl rfl
theorem d_143_63 {B : zeB} {im : Nat → Nat → Int32} {lm : Nat → Nat → Int64} (o1 : Option Value) (l2 : Int32) (l3 : Int32)  : zeRun 143 63 [some (.ref 170), o1, some (.int l2), some (.int l3)] [] (zk B im lm) = zeRun 143 64 [some (.ref 170), o1, some (.int l2), some (.int l3)] [.int l3] (zk B im lm) := ze_go (ok := true) rfl 1 rfl rfl
theorem d_143_64 {B : zeB} {im : Nat → Nat → Int32} {lm : Nat → Nat → Int64} (o1 : Option Value) (l2 : Int32) (o3 : Option Value) (s0 : Int32)  : zeRun 143 64 [some (.ref 170), o1, some (.int l2), o3] [.int s0] (zk B im lm) = if s0 < 0 then zeRun 143 74 [some (.ref 170), o1, some (.int l2), some (.int s0)] [.int l2] (zk B im lm) else zeRun 143 70 [some (.ref 170), o1, some (.int l2), some (.int s0)] [.int l2] (zk B im lm) := ze_if (ok := true) rfl 4 rfl rfl
theorem d_143_74 {B : zeB} {im : Nat → Nat → Int32} {lm : Nat → Nat → Int64} (o1 : Option Value) (o2 : Option Value) (l3 : Int32) (s0 : Int32)  : zeRun 143 74 [some (.ref 170), o1, o2, some (.int l3)] [.int s0] (zk B im lm) = zeRun 143 22 [some (.ref 170), o1, some (.int (s0 + 0)), some (.int l3)] [] (zk B im lm) := ze_go (ok := true) rfl 4 rfl rfl
theorem d_143_70 {B : zeB} {im : Nat → Nat → Int32} {lm : Nat → Nat → Int64} (o1 : Option Value) (o2 : Option Value) (l3 : Int32) (s0 : Int32)  : zeRun 143 70 [some (.ref 170), o1, o2, some (.int l3)] [.int s0] (zk B im lm) = zeRun 143 22 [some (.ref 170), o1, some (.int (s0 + 1)), some (.int l3)] [] (zk B im lm) := ze_go (ok := true) rfl 5 rfl rfl
def J_143_64 (K22 : Int32 → Int32 → zI → zJ → zR) (l2 : Int32) (s0 : Int32) (im : zI) (lm : zJ) : zR :=
    K22 (if s0 < 0 then (l2 + 0) else (l2 + 1)) s0 im lm
theorem J_143_64_ok {B : zeB} (K22 : Int32 → Int32 → zI → zJ → zR) (hK22 : ∀ (l2 : Int32) (l3 : Int32) (o1 : Option Value) (im : zI) (lm : zJ), zL B 1 (K22 l2 l3 im lm) (zeRun 143 22 [some (.ref 170), o1, some (.int l2), some (.int l3)] [] (zk B im lm))) (l2 : Int32) (s0 : Int32) (o1 : Option Value) (o3 : Option Value) (im : zI) (lm : zJ) : zL B 1 (J_143_64 K22 l2 s0 im lm) (zeRun 143 64 [some (.ref 170), o1, some (.int l2), o3] [.int s0] (zk B im lm)) := by
  unfold J_143_64
  refine zL_ifm (d_143_64 _ _ _ _) (fun h => ?_) (fun h => ?_)
  · repeat rw [if_pos h]
    refine zL_eq (d_143_74 _ _ _ _) ?_
    exact hK22 _ _ _ _ _
  · repeat rw [if_neg h]
    refine zL_eq (d_143_70 _ _ _ _) ?_
    exact hK22 _ _ _ _ _
def J_143_53 (K22 : Int32 → Int32 → zI → zJ → zR) (l2 : Int32) (l3 : Int32) (im : zI) (lm : zJ) : zR :=
    J_143_64 K22  l2 (if l3 = (-10000005) then 0 else l3) im lm
theorem J_143_53_ok {B : zeB} (K22 : Int32 → Int32 → zI → zJ → zR) (hK22 : ∀ (l2 : Int32) (l3 : Int32) (o1 : Option Value) (im : zI) (lm : zJ), zL B 1 (K22 l2 l3 im lm) (zeRun 143 22 [some (.ref 170), o1, some (.int l2), some (.int l3)] [] (zk B im lm))) (l2 : Int32) (l3 : Int32) (o1 : Option Value) (im : zI) (lm : zJ) : zL B 1 (J_143_53 K22 l2 l3 im lm) (zeRun 143 53 [some (.ref 170), o1, some (.int l2), some (.int l3)] [] (zk B im lm)) := by
  unfold J_143_53
  refine zL_ifm (d_143_53 _ _ _) (fun h => ?_) (fun h => ?_)
  · repeat rw [if_pos h]
    refine zL_eq (d_143_59 _ _ _) ?_
    exact J_143_64_ok _ hK22  _ _ _ _ _ _
  · repeat rw [if_neg h]
    refine zL_eq (d_143_63 _ _ _) ?_
    exact J_143_64_ok _ hK22  _ _ _ _ _ _
def F_143_22  : Nat → Int32 → Int32 → zI → zJ → zR
  | 0, _, _, _, _ => none
  | n + 1, l2, l3, im, lm =>
    if l3 < 0 then
      some (l2, im, lm)
    else
      if (im 170 18) ≤ l2 then
        some (l2, im, lm)
      else
        zBd (m_141 (3 * l2) im lm) fun v1 im1 lm1 =>
        if v1 < 0 then
          J_143_53 (F_143_22  n)  l2 v1 im1 lm1
        else
          zBd (m_142 (3 * l2) im1 lm1) fun _ im2 lm2 =>
          J_143_53 (F_143_22  n)  l2 v1 im2 lm2
theorem F_143_22_ok {B : zeB} : ∀ (n : Nat) (l2 : Int32) (l3 : Int32) (o1 : Option Value) (im : zI) (lm : zJ), zL B 1 (F_143_22  n l2 l3 im lm) (zeRun 143 22 [some (.ref 170), o1, some (.int l2), some (.int l3)] [] (zk B im lm)) := by
  intro n
  induction n with
  | zero => intros; exact zL_none
  | succ n ih =>
    intro l2 l3 o1 im lm
    unfold F_143_22
    refine zL_if (d_143_22 _ _ _) (fun h => ?_) (fun h => ?_)
    · skip
      exact zL_ret (d_143_80 _ _ _ _)
    · skip
      refine zL_if (d_143_26 _ _ _) (fun h => ?_) (fun h => ?_)
      · skip
        exact zL_ret (d_143_80 _ _ _ _)
      · skip
        refine zL_bd (d_143_34 _ _ _) (m_141_ok _ _ _) fun v1 im1 lm1 => ?_
        refine zL_if (d_143_41 _ _ _ _) (fun h => ?_) (fun h => ?_)
        · skip
          exact J_143_53_ok _ ih  _ _ _ _ _
        · skip
          refine zL_bdv (d_143_46 _ _ _) (m_142_ok _ _ _) fun _ im2 lm2 => ?_
          exact J_143_53_ok _ ih  _ _ _ _ _
def m_143  (im : zI) (lm : zJ) : zR :=
    zBd (m_140  im lm) fun v1 im1 lm1 =>
    if v1 < 0 then
      zBd (m_25  im1 lm1) fun _ im2 lm2 =>
      F_143_22  2000 0 0 im2 lm2
    else
      some (((-100) - v1), im1, lm1)
theorem m_143_ok {B : zeB}  (im : zI) (lm : zJ) : zL B 1 (m_143  im lm) (zeRun 143 0 [some (.ref 170), none, none, none] [] (zk B im lm)) := by
  unfold m_143
  refine zL_bd (d_143_0 _ _ _) (m_140_ok _ _) fun v1 im1 lm1 => ?_
  refine zL_if (d_143_4 _ _ _ _) (fun h => ?_) (fun h => ?_)
  · skip
    refine zL_bdv (d_143_14 _ _ _) (m_25_ok _ _) fun _ im2 lm2 => ?_
    refine zL_eq (d_143_18 _ _ _) ?_
    exact F_143_22_ok  _ _ _ _ _ _
  · skip
    exact zL_ret (d_143_9 _ _ _ _)
/-! X1_takeLatest -/
theorem d_144_0 {B : zeB} {im : Nat → Nat → Int32} {lm : Nat → Nat → Int64}   : zeRun 144 0 [some (.ref 42)] [] (zk B im lm) = if (im 42 0) ≤ 0 then zeRun 144 38 [some (.ref 42)] [] (zk B im lm) else zeRun 144 7 [some (.ref 42)] [] (zk B im lm) := ze_if (ok := true) rfl 3 rfl rfl
theorem d_144_7 {B : zeB} {im : Nat → Nat → Int32} {lm : Nat → Nat → Int64}   : zeRun 144 7 [some (.ref 42)] [] (zk B im lm) = if (im 42 1) = 0 then zeRun 144 15 [some (.ref 42)] [.ref 42] (zk B im lm) else zeRun 144 19 [some (.ref 42)] [.ref 42] (zk B im lm) := ze_if (ok := true) rfl 4 rfl rfl
theorem d_144_15 {B : zeB} {im : Nat → Nat → Int32} {lm : Nat → Nat → Int64}   : zeRun 144 15 [some (.ref 42)] [.ref 42] (zk B im lm) = zeRun 144 25 [some (.ref 42)] [.int 5, .ref 42] (zk B im lm) := ze_go (ok := true) rfl 2 rfl rfl
theorem d_144_19 {B : zeB} {im : Nat → Nat → Int32} {lm : Nat → Nat → Int64}   : zeRun 144 19 [some (.ref 42)] [.ref 42] (zk B im lm) = zeRun 144 25 [some (.ref 42)] [.int ((im 42 1) - 1), .ref 42] (zk B im lm) := ze_go (ok := true) rfl 4 rfl rfl
theorem d_144_25 {B : zeB} {im : Nat → Nat → Int32} {lm : Nat → Nat → Int64} (s1 : Int32)  : zeRun 144 25 [some (.ref 42)] [.int s1, .ref 42] (zk B im lm) = zeRun 144 38 [some (.ref 42)] [] (zk B (zeU2 (zeU2 im 42 1 s1) 42 0 ((im 42 0) - 1)) lm) := ze_go (ok := true) rfl 7 rfl rfl
theorem d_144_38 {B : zeB} {im : Nat → Nat → Int32} {lm : Nat → Nat → Int64}   : zeRun 144 38 [some (.ref 42)] [] (zk B im lm) = zeRun 144 46 [some (.ref 42)] [.int (im 42 1), .ref 43] (zk B im lm) := ze_go (ok := true) rfl 4 rfl rfl
theorem d_144_46_0 {B : zeB} {im : Nat → Nat → Int32} {lm : Nat → Nat → Int64} (o0 : Option Value) (s1 : Int32) (c0 : zeInb s1 6 = true) (hx : Int32.toNatClampNeg s1 = 0) : zeRun 144 46 [o0] [.int s1, .ref 43] (zk B im lm) = zeRun 144 47 [o0] [.ref 44] (zk B im lm) := by
  have hy := (ze_go (i := 144) rfl 1 rfl (zeA2 c0 rfl) : zeRun 144 46 [o0] [.int s1, .ref 43] (zk B im lm) = _)
  exact hy.trans (by rw [hx]; rfl)
theorem d_144_46_1 {B : zeB} {im : Nat → Nat → Int32} {lm : Nat → Nat → Int64} (o0 : Option Value) (s1 : Int32) (c0 : zeInb s1 6 = true) (hx : Int32.toNatClampNeg s1 = 1) : zeRun 144 46 [o0] [.int s1, .ref 43] (zk B im lm) = zeRun 144 47 [o0] [.ref 59] (zk B im lm) := by
  have hy := (ze_go (i := 144) rfl 1 rfl (zeA2 c0 rfl) : zeRun 144 46 [o0] [.int s1, .ref 43] (zk B im lm) = _)
  exact hy.trans (by rw [hx]; rfl)
theorem d_144_46_2 {B : zeB} {im : Nat → Nat → Int32} {lm : Nat → Nat → Int64} (o0 : Option Value) (s1 : Int32) (c0 : zeInb s1 6 = true) (hx : Int32.toNatClampNeg s1 = 2) : zeRun 144 46 [o0] [.int s1, .ref 43] (zk B im lm) = zeRun 144 47 [o0] [.ref 74] (zk B im lm) := by
  have hy := (ze_go (i := 144) rfl 1 rfl (zeA2 c0 rfl) : zeRun 144 46 [o0] [.int s1, .ref 43] (zk B im lm) = _)
  exact hy.trans (by rw [hx]; rfl)
theorem d_144_46_3 {B : zeB} {im : Nat → Nat → Int32} {lm : Nat → Nat → Int64} (o0 : Option Value) (s1 : Int32) (c0 : zeInb s1 6 = true) (hx : Int32.toNatClampNeg s1 = 3) : zeRun 144 46 [o0] [.int s1, .ref 43] (zk B im lm) = zeRun 144 47 [o0] [.ref 89] (zk B im lm) := by
  have hy := (ze_go (i := 144) rfl 1 rfl (zeA2 c0 rfl) : zeRun 144 46 [o0] [.int s1, .ref 43] (zk B im lm) = _)
  exact hy.trans (by rw [hx]; rfl)
theorem d_144_46_4 {B : zeB} {im : Nat → Nat → Int32} {lm : Nat → Nat → Int64} (o0 : Option Value) (s1 : Int32) (c0 : zeInb s1 6 = true) (hx : Int32.toNatClampNeg s1 = 4) : zeRun 144 46 [o0] [.int s1, .ref 43] (zk B im lm) = zeRun 144 47 [o0] [.ref 104] (zk B im lm) := by
  have hy := (ze_go (i := 144) rfl 1 rfl (zeA2 c0 rfl) : zeRun 144 46 [o0] [.int s1, .ref 43] (zk B im lm) = _)
  exact hy.trans (by rw [hx]; rfl)
theorem d_144_46_5 {B : zeB} {im : Nat → Nat → Int32} {lm : Nat → Nat → Int64} (o0 : Option Value) (s1 : Int32) (c0 : zeInb s1 6 = true) (hx : Int32.toNatClampNeg s1 = 5) : zeRun 144 46 [o0] [.int s1, .ref 43] (zk B im lm) = zeRun 144 47 [o0] [.ref 119] (zk B im lm) := by
  have hy := (ze_go (i := 144) rfl 1 rfl (zeA2 c0 rfl) : zeRun 144 46 [o0] [.int s1, .ref 43] (zk B im lm) = _)
  exact hy.trans (by rw [hx]; rfl)
theorem d_144_47 {B : zeB} {im : Nat → Nat → Int32} {lm : Nat → Nat → Int64} (o0 : Option Value)  : zeRun 144 47 [o0] [.ref 44] (zk B im lm) = some (some (.ref 44), (zk B im lm)) := ze_ret (ok := true) rfl 1 rfl rfl
theorem d_144_47_2 {B : zeB} {im : Nat → Nat → Int32} {lm : Nat → Nat → Int64} (o0 : Option Value)  : zeRun 144 47 [o0] [.ref 59] (zk B im lm) = some (some (.ref 59), (zk B im lm)) := ze_ret (ok := true) rfl 1 rfl rfl
theorem d_144_47_3 {B : zeB} {im : Nat → Nat → Int32} {lm : Nat → Nat → Int64} (o0 : Option Value)  : zeRun 144 47 [o0] [.ref 74] (zk B im lm) = some (some (.ref 74), (zk B im lm)) := ze_ret (ok := true) rfl 1 rfl rfl
theorem d_144_47_4 {B : zeB} {im : Nat → Nat → Int32} {lm : Nat → Nat → Int64} (o0 : Option Value)  : zeRun 144 47 [o0] [.ref 89] (zk B im lm) = some (some (.ref 89), (zk B im lm)) := ze_ret (ok := true) rfl 1 rfl rfl
theorem d_144_47_5 {B : zeB} {im : Nat → Nat → Int32} {lm : Nat → Nat → Int64} (o0 : Option Value)  : zeRun 144 47 [o0] [.ref 104] (zk B im lm) = some (some (.ref 104), (zk B im lm)) := ze_ret (ok := true) rfl 1 rfl rfl
theorem d_144_47_6 {B : zeB} {im : Nat → Nat → Int32} {lm : Nat → Nat → Int64} (o0 : Option Value)  : zeRun 144 47 [o0] [.ref 119] (zk B im lm) = some (some (.ref 119), (zk B im lm)) := ze_ret (ok := true) rfl 1 rfl rfl
def J_144_38   (im : zI) (lm : zJ) : zR :=
    zCk (zeInb (im 42 1) 6) <|
    if Int32.toNatClampNeg (im 42 1) = 0 then
      some (44, im, lm)
    else
    if Int32.toNatClampNeg (im 42 1) = 1 then
      some (59, im, lm)
    else
    if Int32.toNatClampNeg (im 42 1) = 2 then
      some (74, im, lm)
    else
    if Int32.toNatClampNeg (im 42 1) = 3 then
      some (89, im, lm)
    else
    if Int32.toNatClampNeg (im 42 1) = 4 then
      some (104, im, lm)
    else
    if Int32.toNatClampNeg (im 42 1) = 5 then
      some (119, im, lm)
    else
    none
theorem J_144_38_ok {B : zeB}   (im : zI) (lm : zJ) : zL B 2 (J_144_38   im lm) (zeRun 144 38 [some (.ref 42)] [] (zk B im lm)) := by
  unfold J_144_38
  refine zL_eq d_144_38 ?_
  refine zL_ck fun c1 => ?_
  refine zL_aa (fun h => ?_) (fun h => ?_)
  · refine zL_eq (d_144_46_0 _ _ c1 h) ?_
    exact zL_retr (d_144_47 _) (by decide)
  refine zL_aa (fun h => ?_) (fun h => ?_)
  · refine zL_eq (d_144_46_1 _ _ c1 h) ?_
    exact zL_retr (d_144_47_2 _) (by decide)
  refine zL_aa (fun h => ?_) (fun h => ?_)
  · refine zL_eq (d_144_46_2 _ _ c1 h) ?_
    exact zL_retr (d_144_47_3 _) (by decide)
  refine zL_aa (fun h => ?_) (fun h => ?_)
  · refine zL_eq (d_144_46_3 _ _ c1 h) ?_
    exact zL_retr (d_144_47_4 _) (by decide)
  refine zL_aa (fun h => ?_) (fun h => ?_)
  · refine zL_eq (d_144_46_4 _ _ c1 h) ?_
    exact zL_retr (d_144_47_5 _) (by decide)
  refine zL_aa (fun h => ?_) (fun h => ?_)
  · refine zL_eq (d_144_46_5 _ _ c1 h) ?_
    exact zL_retr (d_144_47_6 _) (by decide)
  exact zL_none
def J_144_25  (s1 : Int32) (im : zI) (lm : zJ) : zR :=
    J_144_38    (zeU2 (zeU2 im 42 1 s1) 42 0 ((im 42 0) - 1)) lm
theorem J_144_25_ok {B : zeB} (s1 : Int32)  (im : zI) (lm : zJ) : zL B 2 (J_144_25  s1 im lm) (zeRun 144 25 [some (.ref 42)] [.int s1, .ref 42] (zk B im lm)) := by
  unfold J_144_25
  refine zL_eq (d_144_25 _) ?_
  exact J_144_38_ok   _ _
def m_144  (im : zI) (lm : zJ) : zR :=
    if (im 42 0) ≤ 0 then
      J_144_38    im lm
    else
      J_144_25   (if (im 42 1) = 0 then 5 else ((im 42 1) - 1)) im lm
theorem m_144_ok {B : zeB}  (im : zI) (lm : zJ) : zL B 2 (m_144  im lm) (zeRun 144 0 [some (.ref 42)] [] (zk B im lm)) := by
  unfold m_144
  refine zL_if d_144_0 (fun h => ?_) (fun h => ?_)
  · skip
    exact J_144_38_ok   _ _
  · skip
    refine zL_ifm d_144_7 (fun h => ?_) (fun h => ?_)
    · repeat rw [if_pos h]
      refine zL_eq d_144_15 ?_
      exact J_144_25_ok   _ _ _
    · repeat rw [if_neg h]
      refine zL_eq d_144_19 ?_
      exact J_144_25_ok   _ _ _
/-! X7_load_44 -/
theorem d_145_44_0 {B : zeB} {im : Nat → Nat → Int32} {lm : Nat → Nat → Int64}   : zeRun 145 0 [some (.ref 16), some (.ref 44)] [] (zk B im lm) = zeBh 145 8 [some (.ref 16), some (.ref 44)] [] (zeRun 14 0 [some (.ref 17), some (.ref 44)] [] (zk B im lm)) := ze_call (ok := true) rfl 4 rfl rfl rfl
theorem d_145_44_8 {B : zeB} {im : Nat → Nat → Int32} {lm : Nat → Nat → Int64} (o1 : Option Value)  : zeRun 145 8 [some (.ref 16), o1] [] (zk B im lm) = zeBh 145 22 [some (.ref 16), o1] [] (zeRun 76 0 [some (.ref 32), some (.ref 26), none] [] (zk B im lm)) := ze_call (ok := true) rfl 6 rfl rfl rfl
theorem d_145_44_22 {B : zeB} {im : Nat → Nat → Int32} {lm : Nat → Nat → Int64} (o0 : Option Value) (o1 : Option Value)  : zeRun 145 22 [o0, o1] [] (zk B im lm) = some (none, (zk B im lm)) := ze_ret (ok := true) rfl 1 rfl rfl
def m_145_44  (im : zI) (lm : zJ) : zR :=
    zBd (m_14_17_44  im lm) fun _ im1 lm1 =>
    zBd (m_76  im1 lm1) fun _ im2 lm2 =>
    some (0, im2, lm2)
theorem m_145_44_ok {B : zeB}  (im : zI) (lm : zJ) : zL B 0 (m_145_44  im lm) (zeRun 145 0 [some (.ref 16), some (.ref 44)] [] (zk B im lm)) := by
  unfold m_145_44
  refine zL_bdv d_145_44_0 (m_14_17_44_ok _ _) fun _ im1 lm1 => ?_
  refine zL_bdv (d_145_44_8 _) (m_76_ok _ _) fun _ im2 lm2 => ?_
  exact zL_retv (d_145_44_22 _ _)
/-! X7_load_59 -/
theorem d_145_59_0 {B : zeB} {im : Nat → Nat → Int32} {lm : Nat → Nat → Int64}   : zeRun 145 0 [some (.ref 16), some (.ref 59)] [] (zk B im lm) = zeBh 145 8 [some (.ref 16), some (.ref 59)] [] (zeRun 14 0 [some (.ref 17), some (.ref 59)] [] (zk B im lm)) := ze_call (ok := true) rfl 4 rfl rfl rfl
theorem d_145_59_8 {B : zeB} {im : Nat → Nat → Int32} {lm : Nat → Nat → Int64} (o1 : Option Value)  : zeRun 145 8 [some (.ref 16), o1] [] (zk B im lm) = zeBh 145 22 [some (.ref 16), o1] [] (zeRun 76 0 [some (.ref 32), some (.ref 26), none] [] (zk B im lm)) := ze_call (ok := true) rfl 6 rfl rfl rfl
theorem d_145_59_22 {B : zeB} {im : Nat → Nat → Int32} {lm : Nat → Nat → Int64} (o0 : Option Value) (o1 : Option Value)  : zeRun 145 22 [o0, o1] [] (zk B im lm) = some (none, (zk B im lm)) := ze_ret (ok := true) rfl 1 rfl rfl
def m_145_59  (im : zI) (lm : zJ) : zR :=
    zBd (m_14_17_59  im lm) fun _ im1 lm1 =>
    zBd (m_76  im1 lm1) fun _ im2 lm2 =>
    some (0, im2, lm2)
theorem m_145_59_ok {B : zeB}  (im : zI) (lm : zJ) : zL B 0 (m_145_59  im lm) (zeRun 145 0 [some (.ref 16), some (.ref 59)] [] (zk B im lm)) := by
  unfold m_145_59
  refine zL_bdv d_145_59_0 (m_14_17_59_ok _ _) fun _ im1 lm1 => ?_
  refine zL_bdv (d_145_59_8 _) (m_76_ok _ _) fun _ im2 lm2 => ?_
  exact zL_retv (d_145_59_22 _ _)
/-! X7_load_74 -/
theorem d_145_74_0 {B : zeB} {im : Nat → Nat → Int32} {lm : Nat → Nat → Int64}   : zeRun 145 0 [some (.ref 16), some (.ref 74)] [] (zk B im lm) = zeBh 145 8 [some (.ref 16), some (.ref 74)] [] (zeRun 14 0 [some (.ref 17), some (.ref 74)] [] (zk B im lm)) := ze_call (ok := true) rfl 4 rfl rfl rfl
theorem d_145_74_8 {B : zeB} {im : Nat → Nat → Int32} {lm : Nat → Nat → Int64} (o1 : Option Value)  : zeRun 145 8 [some (.ref 16), o1] [] (zk B im lm) = zeBh 145 22 [some (.ref 16), o1] [] (zeRun 76 0 [some (.ref 32), some (.ref 26), none] [] (zk B im lm)) := ze_call (ok := true) rfl 6 rfl rfl rfl
theorem d_145_74_22 {B : zeB} {im : Nat → Nat → Int32} {lm : Nat → Nat → Int64} (o0 : Option Value) (o1 : Option Value)  : zeRun 145 22 [o0, o1] [] (zk B im lm) = some (none, (zk B im lm)) := ze_ret (ok := true) rfl 1 rfl rfl
def m_145_74  (im : zI) (lm : zJ) : zR :=
    zBd (m_14_17_74  im lm) fun _ im1 lm1 =>
    zBd (m_76  im1 lm1) fun _ im2 lm2 =>
    some (0, im2, lm2)
theorem m_145_74_ok {B : zeB}  (im : zI) (lm : zJ) : zL B 0 (m_145_74  im lm) (zeRun 145 0 [some (.ref 16), some (.ref 74)] [] (zk B im lm)) := by
  unfold m_145_74
  refine zL_bdv d_145_74_0 (m_14_17_74_ok _ _) fun _ im1 lm1 => ?_
  refine zL_bdv (d_145_74_8 _) (m_76_ok _ _) fun _ im2 lm2 => ?_
  exact zL_retv (d_145_74_22 _ _)
/-! X7_load_89 -/
theorem d_145_89_0 {B : zeB} {im : Nat → Nat → Int32} {lm : Nat → Nat → Int64}   : zeRun 145 0 [some (.ref 16), some (.ref 89)] [] (zk B im lm) = zeBh 145 8 [some (.ref 16), some (.ref 89)] [] (zeRun 14 0 [some (.ref 17), some (.ref 89)] [] (zk B im lm)) := ze_call (ok := true) rfl 4 rfl rfl rfl
theorem d_145_89_8 {B : zeB} {im : Nat → Nat → Int32} {lm : Nat → Nat → Int64} (o1 : Option Value)  : zeRun 145 8 [some (.ref 16), o1] [] (zk B im lm) = zeBh 145 22 [some (.ref 16), o1] [] (zeRun 76 0 [some (.ref 32), some (.ref 26), none] [] (zk B im lm)) := ze_call (ok := true) rfl 6 rfl rfl rfl
theorem d_145_89_22 {B : zeB} {im : Nat → Nat → Int32} {lm : Nat → Nat → Int64} (o0 : Option Value) (o1 : Option Value)  : zeRun 145 22 [o0, o1] [] (zk B im lm) = some (none, (zk B im lm)) := ze_ret (ok := true) rfl 1 rfl rfl
def m_145_89  (im : zI) (lm : zJ) : zR :=
    zBd (m_14_17_89  im lm) fun _ im1 lm1 =>
    zBd (m_76  im1 lm1) fun _ im2 lm2 =>
    some (0, im2, lm2)
theorem m_145_89_ok {B : zeB}  (im : zI) (lm : zJ) : zL B 0 (m_145_89  im lm) (zeRun 145 0 [some (.ref 16), some (.ref 89)] [] (zk B im lm)) := by
  unfold m_145_89
  refine zL_bdv d_145_89_0 (m_14_17_89_ok _ _) fun _ im1 lm1 => ?_
  refine zL_bdv (d_145_89_8 _) (m_76_ok _ _) fun _ im2 lm2 => ?_
  exact zL_retv (d_145_89_22 _ _)
/-! X7_load_104 -/
theorem d_145_104_0 {B : zeB} {im : Nat → Nat → Int32} {lm : Nat → Nat → Int64}   : zeRun 145 0 [some (.ref 16), some (.ref 104)] [] (zk B im lm) = zeBh 145 8 [some (.ref 16), some (.ref 104)] [] (zeRun 14 0 [some (.ref 17), some (.ref 104)] [] (zk B im lm)) := ze_call (ok := true) rfl 4 rfl rfl rfl
theorem d_145_104_8 {B : zeB} {im : Nat → Nat → Int32} {lm : Nat → Nat → Int64} (o1 : Option Value)  : zeRun 145 8 [some (.ref 16), o1] [] (zk B im lm) = zeBh 145 22 [some (.ref 16), o1] [] (zeRun 76 0 [some (.ref 32), some (.ref 26), none] [] (zk B im lm)) := ze_call (ok := true) rfl 6 rfl rfl rfl
theorem d_145_104_22 {B : zeB} {im : Nat → Nat → Int32} {lm : Nat → Nat → Int64} (o0 : Option Value) (o1 : Option Value)  : zeRun 145 22 [o0, o1] [] (zk B im lm) = some (none, (zk B im lm)) := ze_ret (ok := true) rfl 1 rfl rfl
def m_145_104  (im : zI) (lm : zJ) : zR :=
    zBd (m_14_17_104  im lm) fun _ im1 lm1 =>
    zBd (m_76  im1 lm1) fun _ im2 lm2 =>
    some (0, im2, lm2)
theorem m_145_104_ok {B : zeB}  (im : zI) (lm : zJ) : zL B 0 (m_145_104  im lm) (zeRun 145 0 [some (.ref 16), some (.ref 104)] [] (zk B im lm)) := by
  unfold m_145_104
  refine zL_bdv d_145_104_0 (m_14_17_104_ok _ _) fun _ im1 lm1 => ?_
  refine zL_bdv (d_145_104_8 _) (m_76_ok _ _) fun _ im2 lm2 => ?_
  exact zL_retv (d_145_104_22 _ _)
/-! X7_load_119 -/
theorem d_145_119_0 {B : zeB} {im : Nat → Nat → Int32} {lm : Nat → Nat → Int64}   : zeRun 145 0 [some (.ref 16), some (.ref 119)] [] (zk B im lm) = zeBh 145 8 [some (.ref 16), some (.ref 119)] [] (zeRun 14 0 [some (.ref 17), some (.ref 119)] [] (zk B im lm)) := ze_call (ok := true) rfl 4 rfl rfl rfl
theorem d_145_119_8 {B : zeB} {im : Nat → Nat → Int32} {lm : Nat → Nat → Int64} (o1 : Option Value)  : zeRun 145 8 [some (.ref 16), o1] [] (zk B im lm) = zeBh 145 22 [some (.ref 16), o1] [] (zeRun 76 0 [some (.ref 32), some (.ref 26), none] [] (zk B im lm)) := ze_call (ok := true) rfl 6 rfl rfl rfl
theorem d_145_119_22 {B : zeB} {im : Nat → Nat → Int32} {lm : Nat → Nat → Int64} (o0 : Option Value) (o1 : Option Value)  : zeRun 145 22 [o0, o1] [] (zk B im lm) = some (none, (zk B im lm)) := ze_ret (ok := true) rfl 1 rfl rfl
def m_145_119  (im : zI) (lm : zJ) : zR :=
    zBd (m_14_17_119  im lm) fun _ im1 lm1 =>
    zBd (m_76  im1 lm1) fun _ im2 lm2 =>
    some (0, im2, lm2)
theorem m_145_119_ok {B : zeB}  (im : zI) (lm : zJ) : zL B 0 (m_145_119  im lm) (zeRun 145 0 [some (.ref 16), some (.ref 119)] [] (zk B im lm)) := by
  unfold m_145_119
  refine zL_bdv d_145_119_0 (m_14_17_119_ok _ _) fun _ im1 lm1 => ?_
  refine zL_bdv (d_145_119_8 _) (m_76_ok _ _) fun _ im2 lm2 => ?_
  exact zL_retv (d_145_119_22 _ _)
/-! X7_load_135 -/
theorem d_145_135_0 {B : zeB} {im : Nat → Nat → Int32} {lm : Nat → Nat → Int64}   : zeRun 145 0 [some (.ref 16), some (.ref 135)] [] (zk B im lm) = zeBh 145 8 [some (.ref 16), some (.ref 135)] [] (zeRun 14 0 [some (.ref 17), some (.ref 135)] [] (zk B im lm)) := ze_call (ok := true) rfl 4 rfl rfl rfl
theorem d_145_135_8 {B : zeB} {im : Nat → Nat → Int32} {lm : Nat → Nat → Int64} (o1 : Option Value)  : zeRun 145 8 [some (.ref 16), o1] [] (zk B im lm) = zeBh 145 22 [some (.ref 16), o1] [] (zeRun 76 0 [some (.ref 32), some (.ref 26), none] [] (zk B im lm)) := ze_call (ok := true) rfl 6 rfl rfl rfl
theorem d_145_135_22 {B : zeB} {im : Nat → Nat → Int32} {lm : Nat → Nat → Int64} (o0 : Option Value) (o1 : Option Value)  : zeRun 145 22 [o0, o1] [] (zk B im lm) = some (none, (zk B im lm)) := ze_ret (ok := true) rfl 1 rfl rfl
def m_145_135  (im : zI) (lm : zJ) : zR :=
    zBd (m_14_17_135  im lm) fun _ im1 lm1 =>
    zBd (m_76  im1 lm1) fun _ im2 lm2 =>
    some (0, im2, lm2)
theorem m_145_135_ok {B : zeB}  (im : zI) (lm : zJ) : zL B 0 (m_145_135  im lm) (zeRun 145 0 [some (.ref 16), some (.ref 135)] [] (zk B im lm)) := by
  unfold m_145_135
  refine zL_bdv d_145_135_0 (m_14_17_135_ok _ _) fun _ im1 lm1 => ?_
  refine zL_bdv (d_145_135_8 _) (m_76_ok _ _) fun _ im2 lm2 => ?_
  exact zL_retv (d_145_135_22 _ _)
/-! X7_load_150 -/
theorem d_145_150_0 {B : zeB} {im : Nat → Nat → Int32} {lm : Nat → Nat → Int64}   : zeRun 145 0 [some (.ref 16), some (.ref 150)] [] (zk B im lm) = zeBh 145 8 [some (.ref 16), some (.ref 150)] [] (zeRun 14 0 [some (.ref 17), some (.ref 150)] [] (zk B im lm)) := ze_call (ok := true) rfl 4 rfl rfl rfl
theorem d_145_150_8 {B : zeB} {im : Nat → Nat → Int32} {lm : Nat → Nat → Int64} (o1 : Option Value)  : zeRun 145 8 [some (.ref 16), o1] [] (zk B im lm) = zeBh 145 22 [some (.ref 16), o1] [] (zeRun 76 0 [some (.ref 32), some (.ref 26), none] [] (zk B im lm)) := ze_call (ok := true) rfl 6 rfl rfl rfl
theorem d_145_150_22 {B : zeB} {im : Nat → Nat → Int32} {lm : Nat → Nat → Int64} (o0 : Option Value) (o1 : Option Value)  : zeRun 145 22 [o0, o1] [] (zk B im lm) = some (none, (zk B im lm)) := ze_ret (ok := true) rfl 1 rfl rfl
def m_145_150  (im : zI) (lm : zJ) : zR :=
    zBd (m_14_17_150  im lm) fun _ im1 lm1 =>
    zBd (m_76  im1 lm1) fun _ im2 lm2 =>
    some (0, im2, lm2)
theorem m_145_150_ok {B : zeB}  (im : zI) (lm : zJ) : zL B 0 (m_145_150  im lm) (zeRun 145 0 [some (.ref 16), some (.ref 150)] [] (zk B im lm)) := by
  unfold m_145_150
  refine zL_bdv d_145_150_0 (m_14_17_150_ok _ _) fun _ im1 lm1 => ?_
  refine zL_bdv (d_145_150_8 _) (m_76_ok _ _) fun _ im2 lm2 => ?_
  exact zL_retv (d_145_150_22 _ _)
/-! X7_undo -/
theorem d_146_0 {B : zeB} {im : Nat → Nat → Int32} {lm : Nat → Nat → Int64}   : zeRun 146 0 [some (.ref 16)] [] (zk B im lm) = if (im 42 0) = 0 then zeRun 146 10 [some (.ref 16)] [] (zk B im lm) else zeRun 146 13 [some (.ref 16)] [] (zk B im lm) := ze_if (ok := true) rfl 4 rfl rfl
theorem d_146_10 {B : zeB} {im : Nat → Nat → Int32} {lm : Nat → Nat → Int64} (o0 : Option Value)  : zeRun 146 10 [o0] [] (zk B im lm) = some (some (.int (-10000005)), (zk B im lm)) := ze_ret (ok := true) rfl 2 rfl rfl
theorem d_146_13 {B : zeB} {im : Nat → Nat → Int32} {lm : Nat → Nat → Int64}   : zeRun 146 13 [some (.ref 16)] [] (zk B im lm) = zeBh 146 21 [some (.ref 16)] [.ref 16] (zeRun 144 0 [some (.ref 42)] [] (zk B im lm)) := ze_call (ok := true) rfl 4 rfl rfl rfl
theorem d_146_21 {B : zeB} {im : Nat → Nat → Int32} {lm : Nat → Nat → Int64}   : zeRun 146 21 [some (.ref 16)] [.ref 44, .ref 16] (zk B im lm) = zeBh 146 24 [some (.ref 16)] [] (zeRun 145 0 [some (.ref 16), some (.ref 44)] [] (zk B im lm)) := ze_call (ok := true) rfl 1 rfl rfl rfl
theorem d_146_24 {B : zeB} {im : Nat → Nat → Int32} {lm : Nat → Nat → Int64}   : zeRun 146 24 [some (.ref 16)] [] (zk B im lm) = some (some (.int (im 42 0)), (zk B im lm)) := ze_ret (ok := true) rfl 4 rfl rfl
theorem d_146_21_2 {B : zeB} {im : Nat → Nat → Int32} {lm : Nat → Nat → Int64}   : zeRun 146 21 [some (.ref 16)] [.ref 59, .ref 16] (zk B im lm) = zeBh 146 24 [some (.ref 16)] [] (zeRun 145 0 [some (.ref 16), some (.ref 59)] [] (zk B im lm)) := ze_call (ok := true) rfl 1 rfl rfl rfl
theorem d_146_21_3 {B : zeB} {im : Nat → Nat → Int32} {lm : Nat → Nat → Int64}   : zeRun 146 21 [some (.ref 16)] [.ref 74, .ref 16] (zk B im lm) = zeBh 146 24 [some (.ref 16)] [] (zeRun 145 0 [some (.ref 16), some (.ref 74)] [] (zk B im lm)) := ze_call (ok := true) rfl 1 rfl rfl rfl
theorem d_146_21_4 {B : zeB} {im : Nat → Nat → Int32} {lm : Nat → Nat → Int64}   : zeRun 146 21 [some (.ref 16)] [.ref 89, .ref 16] (zk B im lm) = zeBh 146 24 [some (.ref 16)] [] (zeRun 145 0 [some (.ref 16), some (.ref 89)] [] (zk B im lm)) := ze_call (ok := true) rfl 1 rfl rfl rfl
theorem d_146_21_5 {B : zeB} {im : Nat → Nat → Int32} {lm : Nat → Nat → Int64}   : zeRun 146 21 [some (.ref 16)] [.ref 104, .ref 16] (zk B im lm) = zeBh 146 24 [some (.ref 16)] [] (zeRun 145 0 [some (.ref 16), some (.ref 104)] [] (zk B im lm)) := ze_call (ok := true) rfl 1 rfl rfl rfl
theorem d_146_21_6 {B : zeB} {im : Nat → Nat → Int32} {lm : Nat → Nat → Int64}   : zeRun 146 21 [some (.ref 16)] [.ref 119, .ref 16] (zk B im lm) = zeBh 146 24 [some (.ref 16)] [] (zeRun 145 0 [some (.ref 16), some (.ref 119)] [] (zk B im lm)) := ze_call (ok := true) rfl 1 rfl rfl rfl
def m_146  (im : zI) (lm : zJ) : zR :=
    if (im 42 0) = 0 then
      some ((-10000005), im, lm)
    else
      zBd (m_144  im lm) fun v1 im1 lm1 =>
      if Int32.toNatClampNeg v1 = 44 then
        zBd (m_145_44  im1 lm1) fun _ im2 lm2 =>
        some ((im2 42 0), im2, lm2)
      else
      if Int32.toNatClampNeg v1 = 59 then
        zBd (m_145_59  im1 lm1) fun _ im3 lm3 =>
        some ((im3 42 0), im3, lm3)
      else
      if Int32.toNatClampNeg v1 = 74 then
        zBd (m_145_74  im1 lm1) fun _ im4 lm4 =>
        some ((im4 42 0), im4, lm4)
      else
      if Int32.toNatClampNeg v1 = 89 then
        zBd (m_145_89  im1 lm1) fun _ im5 lm5 =>
        some ((im5 42 0), im5, lm5)
      else
      if Int32.toNatClampNeg v1 = 104 then
        zBd (m_145_104  im1 lm1) fun _ im6 lm6 =>
        some ((im6 42 0), im6, lm6)
      else
      if Int32.toNatClampNeg v1 = 119 then
        zBd (m_145_119  im1 lm1) fun _ im7 lm7 =>
        some ((im7 42 0), im7, lm7)
      else
      none
theorem m_146_ok {B : zeB}  (im : zI) (lm : zJ) : zL B 1 (m_146  im lm) (zeRun 146 0 [some (.ref 16)] [] (zk B im lm)) := by
  unfold m_146
  refine zL_if d_146_0 (fun h => ?_) (fun h => ?_)
  · skip
    exact zL_ret (d_146_10 _)
  · skip
    refine zL_bdr d_146_13 (m_144_ok _ _) fun v1 im1 lm1 => ?_
    refine zL_aa (fun h => ?_) (fun h => ?_)
    · rw [h]
      refine zL_bdv d_146_21 (m_145_44_ok _ _) fun _ im2 lm2 => ?_
      exact zL_ret d_146_24
    refine zL_aa (fun h => ?_) (fun h => ?_)
    · rw [h]
      refine zL_bdv d_146_21_2 (m_145_59_ok _ _) fun _ im3 lm3 => ?_
      exact zL_ret d_146_24
    refine zL_aa (fun h => ?_) (fun h => ?_)
    · rw [h]
      refine zL_bdv d_146_21_3 (m_145_74_ok _ _) fun _ im4 lm4 => ?_
      exact zL_ret d_146_24
    refine zL_aa (fun h => ?_) (fun h => ?_)
    · rw [h]
      refine zL_bdv d_146_21_4 (m_145_89_ok _ _) fun _ im5 lm5 => ?_
      exact zL_ret d_146_24
    refine zL_aa (fun h => ?_) (fun h => ?_)
    · rw [h]
      refine zL_bdv d_146_21_5 (m_145_104_ok _ _) fun _ im6 lm6 => ?_
      exact zL_ret d_146_24
    refine zL_aa (fun h => ?_) (fun h => ?_)
    · rw [h]
      refine zL_bdv d_146_21_6 (m_145_119_ok _ _) fun _ im7 lm7 => ?_
      exact zL_ret d_146_24
    exact zL_none
/-! X8_undo -/
theorem d_147_0 {B : zeB} {im : Nat → Nat → Int32} {lm : Nat → Nat → Int64} (o1 : Option Value)  : zeRun 147 0 [some (.ref 170), o1] [] (zk B im lm) = if (im 170 2) = 0 then zeRun 147 7 [some (.ref 170), o1] [] (zk B im lm) else zeRun 147 10 [some (.ref 170), o1] [] (zk B im lm) := ze_if (ok := true) rfl 3 rfl rfl
theorem d_147_7 {B : zeB} {im : Nat → Nat → Int32} {lm : Nat → Nat → Int64} (o0 : Option Value) (o1 : Option Value)  : zeRun 147 7 [o0, o1] [] (zk B im lm) = some (some (.int (-10000005)), (zk B im lm)) := ze_ret (ok := true) rfl 2 rfl rfl
theorem d_147_10 {B : zeB} {im : Nat → Nat → Int32} {lm : Nat → Nat → Int64} (o1 : Option Value)  : zeRun 147 10 [some (.ref 170), o1] [] (zk B im lm) = zeRun 147 22 [some (.ref 170), some (.int 0)] [] (zk B (zeU2 im 170 2 ((im 170 2) - 1)) lm) := ze_go (ok := true) rfl 8 rfl rfl
theorem d_147_22 {B : zeB} {im : Nat → Nat → Int32} {lm : Nat → Nat → Int64} (l1 : Int32)  : zeRun 147 22 [some (.ref 170), some (.int l1)] [] (zk B im lm) = if 360 ≤ l1 then zeRun 147 56 [some (.ref 170), some (.int l1)] [] (zk B im lm) else zeRun 147 29 [some (.ref 170), some (.int l1)] [] (zk B im lm) := ze_if (ok := true) rfl 3 rfl rfl
theorem d_147_56 {B : zeB} {im : Nat → Nat → Int32} {lm : Nat → Nat → Int64} (o1 : Option Value)  : zeRun 147 56 [some (.ref 170), o1] [] (zk B im lm) = some (some (.int (im 170 2)), (zk B im lm)) := ze_ret (ok := true) rfl 3 rfl rfl
theorem d_147_29 {B : zeB} {im : Nat → Nat → Int32} {lm : Nat → Nat → Int64} (l1 : Int32) (c0 : zeInb ((360 * (im 170 2)) + l1) 1800 = true) (c1 : zeInb l1 360 = true) : zeRun 147 29 [some (.ref 170), some (.int l1)] [] (zk B im lm) = zeRun 147 22 [some (.ref 170), some (.int (l1 + 1))] [] (zk B (zeU2 im 171 (Int32.toNatClampNeg l1) (im 172 (Int32.toNatClampNeg ((360 * (im 170 2)) + l1)))) lm) := ze_go (ok := (zeInb l1 360 && (zeInb ((360 * (im 170 2)) + l1) 1800 && true))) rfl 15 rfl (zeA2 c1 (zeA2 c0 rfl))
def F_147_22  : Nat → Int32 → zI → zJ → zR
  | 0, _, _, _ => none
  | n + 1, l1, im, lm =>
    if 360 ≤ l1 then
      some ((im 170 2), im, lm)
    else
      zCk (zeInb ((360 * (im 170 2)) + l1) 1800) <|
      zCk (zeInb l1 360) <|
      F_147_22  n (l1 + 1) (zeU2 im 171 (Int32.toNatClampNeg l1) (im 172 (Int32.toNatClampNeg ((360 * (im 170 2)) + l1)))) lm
theorem F_147_22_ok {B : zeB} : ∀ (n : Nat) (l1 : Int32)  (im : zI) (lm : zJ), zL B 1 (F_147_22  n l1 im lm) (zeRun 147 22 [some (.ref 170), some (.int l1)] [] (zk B im lm)) := by
  intro n
  induction n with
  | zero => intros; exact zL_none
  | succ n ih =>
    intro l1 im lm
    unfold F_147_22
    refine zL_if (d_147_22 _) (fun h => ?_) (fun h => ?_)
    · skip
      exact zL_ret (d_147_56 _)
    · skip
      refine zL_ck fun c1 => ?_
      refine zL_ck fun c2 => ?_
      refine zL_eq (d_147_29 _ c1 c2) ?_
      exact ih _ _ _
def m_147  (im : zI) (lm : zJ) : zR :=
    if (im 170 2) = 0 then
      some ((-10000005), im, lm)
    else
      F_147_22  2000 0 (zeU2 im 170 2 ((im 170 2) - 1)) lm
theorem m_147_ok {B : zeB}  (im : zI) (lm : zJ) : zL B 1 (m_147  im lm) (zeRun 147 0 [some (.ref 170), none] [] (zk B im lm)) := by
  unfold m_147
  refine zL_if (d_147_0 _) (fun h => ?_) (fun h => ?_)
  · skip
    exact zL_ret (d_147_7 _ _)
  · skip
    refine zL_eq (d_147_10 _) ?_
    exact F_147_22_ok  _ _ _ _
/-! X7_isSlot -/
theorem d_148_0 {B : zeB} {im : Nat → Nat → Int32} {lm : Nat → Nat → Int64} (l0 : Int32)  : zeRun 148 0 [some (.int l0)] [] (zk B im lm) = if l0 < 0 then zeRun 148 13 [some (.int l0)] [] (zk B im lm) else zeRun 148 4 [some (.int l0)] [] (zk B im lm) := ze_if (ok := true) rfl 2 rfl rfl
theorem d_148_13 {B : zeB} {im : Nat → Nat → Int32} {lm : Nat → Nat → Int64} (o0 : Option Value)  : zeRun 148 13 [o0] [] (zk B im lm) = some (some (.int 0), (zk B im lm)) := ze_ret (ok := true) rfl 2 rfl rfl
theorem d_148_4 {B : zeB} {im : Nat → Nat → Int32} {lm : Nat → Nat → Int64} (l0 : Int32)  : zeRun 148 4 [some (.int l0)] [] (zk B im lm) = if 2 ≤ l0 then zeRun 148 13 [some (.int l0)] [] (zk B im lm) else zeRun 148 9 [some (.int l0)] [] (zk B im lm) := ze_if (ok := true) rfl 3 rfl rfl
theorem d_148_9 {B : zeB} {im : Nat → Nat → Int32} {lm : Nat → Nat → Int64} (o0 : Option Value)  : zeRun 148 9 [o0] [] (zk B im lm) = some (some (.int 1), (zk B im lm)) := ze_ret (ok := true) rfl 3 rfl rfl
def m_148 (l0 : Int32) (im : zI) (lm : zJ) : zR :=
    some (if l0 < 0 then 0 else if 2 ≤ l0 then 0 else 1, im, lm)
theorem m_148_ok {B : zeB} (l0 : Int32) (im : zI) (lm : zJ) : zL B 1 (m_148 l0 im lm) (zeRun 148 0 [some (.int l0)] [] (zk B im lm)) := by
  unfold m_148
  refine zL_ifm (d_148_0 _) (fun h => ?_) (fun h => ?_)
  · repeat rw [if_pos h]
    exact zL_ret (d_148_13 _)
  · repeat rw [if_neg h]
    refine zL_ifm (d_148_4 _) (fun h => ?_) (fun h => ?_)
    · repeat rw [if_pos h]
      exact zL_ret (d_148_13 _)
    · repeat rw [if_neg h]
      exact zL_ret (d_148_9 _)
/-! X7_keep -/
theorem d_149_0 {B : zeB} {im : Nat → Nat → Int32} {lm : Nat → Nat → Int64} (l1 : Int32)  : zeRun 149 0 [some (.ref 16), some (.int l1)] [] (zk B im lm) = zeBh 149 4 [some (.ref 16), some (.int l1)] [] (zeRun 148 0 [some (.int l1)] [] (zk B im lm)) := ze_call (ok := true) rfl 2 rfl rfl rfl
theorem d_149_4 {B : zeB} {im : Nat → Nat → Int32} {lm : Nat → Nat → Int64} (l1 : Int32) (s0 : Int32)  : zeRun 149 4 [some (.ref 16), some (.int l1)] [.int s0] (zk B im lm) = if s0 = 0 then zeRun 149 7 [some (.ref 16), some (.int l1)] [] (zk B im lm) else zeRun 149 10 [some (.ref 16), some (.int l1)] [] (zk B im lm) := ze_if (ok := true) rfl 1 rfl rfl
theorem d_149_7 {B : zeB} {im : Nat → Nat → Int32} {lm : Nat → Nat → Int64} (o0 : Option Value) (o1 : Option Value)  : zeRun 149 7 [o0, o1] [] (zk B im lm) = some (some (.int (-10000001)), (zk B im lm)) := ze_ret (ok := true) rfl 2 rfl rfl
theorem d_149_10 {B : zeB} {im : Nat → Nat → Int32} {lm : Nat → Nat → Int64} (l1 : Int32)  : zeRun 149 10 [some (.ref 16), some (.int l1)] [] (zk B im lm) = zeRun 149 15 [some (.ref 16), some (.int l1)] [.int l1, .ref 134] (zk B im lm) := ze_go (ok := true) rfl 3 rfl rfl
theorem d_149_15_0 {B : zeB} {im : Nat → Nat → Int32} {lm : Nat → Nat → Int64} (l1 : Int32) (s1 : Int32) (c0 : zeInb s1 2 = true) (hx : Int32.toNatClampNeg s1 = 0) : zeRun 149 15 [some (.ref 16), some (.int l1)] [.int s1, .ref 134] (zk B im lm) = zeRun 149 16 [some (.ref 16), some (.int l1)] [.ref 135] (zk B im lm) := by
  have hy := (ze_go (i := 149) rfl 1 rfl (zeA2 c0 rfl) : zeRun 149 15 [some (.ref 16), some (.int l1)] [.int s1, .ref 134] (zk B im lm) = _)
  exact hy.trans (by rw [hx]; rfl)
theorem d_149_15_1 {B : zeB} {im : Nat → Nat → Int32} {lm : Nat → Nat → Int64} (l1 : Int32) (s1 : Int32) (c0 : zeInb s1 2 = true) (hx : Int32.toNatClampNeg s1 = 1) : zeRun 149 15 [some (.ref 16), some (.int l1)] [.int s1, .ref 134] (zk B im lm) = zeRun 149 16 [some (.ref 16), some (.int l1)] [.ref 150] (zk B im lm) := by
  have hy := (ze_go (i := 149) rfl 1 rfl (zeA2 c0 rfl) : zeRun 149 15 [some (.ref 16), some (.int l1)] [.int s1, .ref 134] (zk B im lm) = _)
  exact hy.trans (by rw [hx]; rfl)
theorem d_149_16 {B : zeB} {im : Nat → Nat → Int32} {lm : Nat → Nat → Int64} (l1 : Int32)  : zeRun 149 16 [some (.ref 16), some (.int l1)] [.ref 135] (zk B im lm) = zeBh 149 23 [some (.ref 16), some (.int l1)] [] (zeRun 14 0 [some (.ref 135), some (.ref 17)] [] (zk B im lm)) := ze_call (ok := true) rfl 3 rfl rfl rfl
theorem d_149_23 {B : zeB} {im : Nat → Nat → Int32} {lm : Nat → Nat → Int64} (l1 : Int32) (c0 : zeInb l1 2 = true) : zeRun 149 23 [some (.ref 16), some (.int l1)] [] (zk B im lm) = some (some (.int (im 26 0)), (zk B (zeU2 im 165 (Int32.toNatClampNeg l1) (vp_nar .boolean 1)) lm)) := ze_ret (ok := (zeInb l1 2 && true)) rfl 10 rfl (zeA2 c0 rfl)
theorem d_149_16_2 {B : zeB} {im : Nat → Nat → Int32} {lm : Nat → Nat → Int64} (l1 : Int32)  : zeRun 149 16 [some (.ref 16), some (.int l1)] [.ref 150] (zk B im lm) = zeBh 149 23 [some (.ref 16), some (.int l1)] [] (zeRun 14 0 [some (.ref 150), some (.ref 17)] [] (zk B im lm)) := ze_call (ok := true) rfl 3 rfl rfl rfl
def m_149 (l1 : Int32) (im : zI) (lm : zJ) : zR :=
    if (if l1 < 0 then 0 else if 2 ≤ l1 then 0 else 1 : Int32) = 0 then
      some ((-10000001), im, lm)
    else
      zCk (zeInb l1 2) <|
      if Int32.toNatClampNeg l1 = 0 then
        zBd (m_14_135_17  im lm) fun _ im2 lm2 =>
        some ((im2 26 0), (zeU2 im2 165 (Int32.toNatClampNeg l1) (vp_nar .boolean 1)), lm2)
      else
      if Int32.toNatClampNeg l1 = 1 then
        zBd (m_14_150_17  im lm) fun _ im3 lm3 =>
        some ((im3 26 0), (zeU2 im3 165 (Int32.toNatClampNeg l1) (vp_nar .boolean 1)), lm3)
      else
      none
theorem m_149_ok {B : zeB} (l1 : Int32) (im : zI) (lm : zJ) : zL B 1 (m_149 l1 im lm) (zeRun 149 0 [some (.ref 16), some (.int l1)] [] (zk B im lm)) := by
  unfold m_149
  refine zL_bdp (e := (if l1 < 0 then 0 else if 2 ≤ l1 then 0 else 1 : Int32)) (d_149_0 _) (m_148_ok _ _ _) ?_
  refine zL_if (d_149_4 _ _) (fun h => ?_) (fun h => ?_)
  · skip
    exact zL_ret (d_149_7 _ _)
  · skip
    refine zL_eq (d_149_10 _) ?_
    refine zL_ck fun c1 => ?_
    refine zL_aa (fun h => ?_) (fun h => ?_)
    · refine zL_eq (d_149_15_0 _ _ c1 h) ?_
      refine zL_bdv (d_149_16 _) (m_14_135_17_ok _ _) fun _ im2 lm2 => ?_
      exact zL_ret (d_149_23 _ c1)
    refine zL_aa (fun h => ?_) (fun h => ?_)
    · refine zL_eq (d_149_15_1 _ _ c1 h) ?_
      refine zL_bdv (d_149_16_2 _) (m_14_150_17_ok _ _) fun _ im3 lm3 => ?_
      exact zL_ret (d_149_23 _ c1)
    exact zL_none
/-! X8_keep -/
theorem d_150_0 {B : zeB} {im : Nat → Nat → Int32} {lm : Nat → Nat → Int64} (l1 : Int32) (o2 : Option Value)  : zeRun 150 0 [some (.ref 170), some (.int l1), o2] [] (zk B im lm) = zeBh 150 6 [some (.ref 170), some (.int l1), o2] [] (zeRun 32 0 [some (.int l1), some (.int 0), some (.int 1)] [] (zk B im lm)) := ze_call (ok := true) rfl 4 rfl rfl rfl
theorem d_150_6 {B : zeB} {im : Nat → Nat → Int32} {lm : Nat → Nat → Int64} (l1 : Int32) (o2 : Option Value) (s0 : Int32)  : zeRun 150 6 [some (.ref 170), some (.int l1), o2] [.int s0] (zk B im lm) = if s0 = 0 then zeRun 150 9 [some (.ref 170), some (.int l1), o2] [] (zk B im lm) else zeRun 150 12 [some (.ref 170), some (.int l1), o2] [] (zk B im lm) := ze_if (ok := true) rfl 1 rfl rfl
theorem d_150_9 {B : zeB} {im : Nat → Nat → Int32} {lm : Nat → Nat → Int64} (o0 : Option Value) (o1 : Option Value) (o2 : Option Value)  : zeRun 150 9 [o0, o1, o2] [] (zk B im lm) = some (some (.int (-10000001)), (zk B im lm)) := ze_ret (ok := true) rfl 2 rfl rfl
theorem d_150_12 {B : zeB} {im : Nat → Nat → Int32} {lm : Nat → Nat → Int64} (l1 : Int32) (o2 : Option Value)  : zeRun 150 12 [some (.ref 170), some (.int l1), o2] [] (zk B im lm) = zeRun 150 14 [some (.ref 170), some (.int l1), some (.int 0)] [] (zk B im lm) := ze_go (ok := true) rfl 2 rfl rfl
theorem d_150_14 {B : zeB} {im : Nat → Nat → Int32} {lm : Nat → Nat → Int64} (l1 : Int32) (l2 : Int32)  : zeRun 150 14 [some (.ref 170), some (.int l1), some (.int l2)] [] (zk B im lm) = if 360 ≤ l2 then zeRun 150 45 [some (.ref 170), some (.int l1), some (.int l2)] [] (zk B im lm) else zeRun 150 21 [some (.ref 170), some (.int l1), some (.int l2)] [] (zk B im lm) := ze_if (ok := true) rfl 3 rfl rfl
theorem d_150_45 {B : zeB} {im : Nat → Nat → Int32} {lm : Nat → Nat → Int64} (l1 : Int32) (o2 : Option Value) (c0 : zeInb l1 2 = true) : zeRun 150 45 [some (.ref 170), some (.int l1), o2] [] (zk B im lm) = some (some (.int (im 171 5)), (zk B (zeU2 im 174 (Int32.toNatClampNeg l1) (vp_nar .boolean 1)) lm)) := ze_ret (ok := (zeInb l1 2 && true)) rfl 10 rfl (zeA2 c0 rfl)
theorem d_150_21 {B : zeB} {im : Nat → Nat → Int32} {lm : Nat → Nat → Int64} (l1 : Int32) (l2 : Int32) (c0 : zeInb l2 360 = true) (c1 : zeInb ((360 * l1) + l2) 720 = true) : zeRun 150 21 [some (.ref 170), some (.int l1), some (.int l2)] [] (zk B im lm) = zeRun 150 14 [some (.ref 170), some (.int l1), some (.int (l2 + 1))] [] (zk B (zeU2 im 173 (Int32.toNatClampNeg ((360 * l1) + l2)) (im 171 (Int32.toNatClampNeg l2))) lm) := ze_go (ok := (zeInb ((360 * l1) + l2) 720 && (zeInb l2 360 && true))) rfl 14 rfl (zeA2 c1 (zeA2 c0 rfl))
def F_150_14  : Nat → Int32 → Int32 → zI → zJ → zR
  | 0, _, _, _, _ => none
  | n + 1, l1, l2, im, lm =>
    if 360 ≤ l2 then
      zCk (zeInb l1 2) <|
      some ((im 171 5), (zeU2 im 174 (Int32.toNatClampNeg l1) (vp_nar .boolean 1)), lm)
    else
      zCk (zeInb l2 360) <|
      zCk (zeInb ((360 * l1) + l2) 720) <|
      F_150_14  n l1 (l2 + 1) (zeU2 im 173 (Int32.toNatClampNeg ((360 * l1) + l2)) (im 171 (Int32.toNatClampNeg l2))) lm
theorem F_150_14_ok {B : zeB} : ∀ (n : Nat) (l1 : Int32) (l2 : Int32)  (im : zI) (lm : zJ), zL B 1 (F_150_14  n l1 l2 im lm) (zeRun 150 14 [some (.ref 170), some (.int l1), some (.int l2)] [] (zk B im lm)) := by
  intro n
  induction n with
  | zero => intros; exact zL_none
  | succ n ih =>
    intro l1 l2 im lm
    unfold F_150_14
    refine zL_if (d_150_14 _ _) (fun h => ?_) (fun h => ?_)
    · skip
      refine zL_ck fun c1 => ?_
      exact zL_ret (d_150_45 _ _ c1)
    · skip
      refine zL_ck fun c2 => ?_
      refine zL_ck fun c3 => ?_
      refine zL_eq (d_150_21 _ _ c2 c3) ?_
      exact ih _ _ _ _
def m_150 (l1 : Int32) (im : zI) (lm : zJ) : zR :=
    if (if l1 < 0 then 0 else if 1 < l1 then 0 else 1 : Int32) = 0 then
      some ((-10000001), im, lm)
    else
      F_150_14  2000 l1 0 im lm
theorem m_150_ok {B : zeB} (l1 : Int32) (im : zI) (lm : zJ) : zL B 1 (m_150 l1 im lm) (zeRun 150 0 [some (.ref 170), some (.int l1), none] [] (zk B im lm)) := by
  unfold m_150
  refine zL_bdp (e := (if l1 < 0 then 0 else if 1 < l1 then 0 else 1 : Int32)) (d_150_0 _ _) (m_32_ok _ _ _ _ _) ?_
  refine zL_if (d_150_6 _ _ _) (fun h => ?_) (fun h => ?_)
  · skip
    exact zL_ret (d_150_9 _ _ _)
  · skip
    refine zL_eq (d_150_12 _ _) ?_
    exact F_150_14_ok  _ _ _ _ _
/-! X7_restore -/
theorem d_151_0 {B : zeB} {im : Nat → Nat → Int32} {lm : Nat → Nat → Int64} (l1 : Int32)  : zeRun 151 0 [some (.ref 16), some (.int l1)] [] (zk B im lm) = zeBh 151 4 [some (.ref 16), some (.int l1)] [] (zeRun 148 0 [some (.int l1)] [] (zk B im lm)) := ze_call (ok := true) rfl 2 rfl rfl rfl
theorem d_151_4 {B : zeB} {im : Nat → Nat → Int32} {lm : Nat → Nat → Int64} (l1 : Int32) (s0 : Int32)  : zeRun 151 4 [some (.ref 16), some (.int l1)] [.int s0] (zk B im lm) = if s0 = 0 then zeRun 151 7 [some (.ref 16), some (.int l1)] [] (zk B im lm) else zeRun 151 10 [some (.ref 16), some (.int l1)] [] (zk B im lm) := ze_if (ok := true) rfl 1 rfl rfl
theorem d_151_7 {B : zeB} {im : Nat → Nat → Int32} {lm : Nat → Nat → Int64} (o0 : Option Value) (o1 : Option Value)  : zeRun 151 7 [o0, o1] [] (zk B im lm) = some (some (.int (-10000001)), (zk B im lm)) := ze_ret (ok := true) rfl 2 rfl rfl
theorem d_151_10 {B : zeB} {im : Nat → Nat → Int32} {lm : Nat → Nat → Int64} (l1 : Int32) (c0 : zeInb l1 2 = true) : zeRun 151 10 [some (.ref 16), some (.int l1)] [] (zk B im lm) = if (im 165 (Int32.toNatClampNeg l1)) = 0 then zeRun 151 19 [some (.ref 16), some (.int l1)] [] (zk B im lm) else zeRun 151 22 [some (.ref 16), some (.int l1)] [] (zk B im lm) := ze_if (ok := (zeInb l1 2 && true)) rfl 5 rfl (zeA2 c0 rfl)
theorem d_151_19 {B : zeB} {im : Nat → Nat → Int32} {lm : Nat → Nat → Int64} (o0 : Option Value) (o1 : Option Value)  : zeRun 151 19 [o0, o1] [] (zk B im lm) = some (some (.int (-10000005)), (zk B im lm)) := ze_ret (ok := true) rfl 2 rfl rfl
theorem d_151_22 {B : zeB} {im : Nat → Nat → Int32} {lm : Nat → Nat → Int64} (l1 : Int32)  : zeRun 151 22 [some (.ref 16), some (.int l1)] [] (zk B im lm) = zeBh 151 33 [some (.ref 16), some (.int l1)] [] (zeRun 15 0 [some (.ref 42), some (.ref 17)] [] (zk B im lm)) := ze_call (ok := true) rfl 5 rfl rfl rfl
theorem d_151_33 {B : zeB} {im : Nat → Nat → Int32} {lm : Nat → Nat → Int64} (l1 : Int32)  : zeRun 151 33 [some (.ref 16), some (.int l1)] [] (zk B im lm) = zeRun 151 39 [some (.ref 16), some (.int l1)] [.int l1, .ref 134, .ref 16] (zk B im lm) := ze_go (ok := true) rfl 4 rfl rfl
theorem d_151_39_0 {B : zeB} {im : Nat → Nat → Int32} {lm : Nat → Nat → Int64} (o1 : Option Value) (s2 : Int32) (c0 : zeInb s2 2 = true) (hx : Int32.toNatClampNeg s2 = 0) : zeRun 151 39 [some (.ref 16), o1] [.int s2, .ref 134, .ref 16] (zk B im lm) = zeRun 151 40 [some (.ref 16), o1] [.ref 135, .ref 16] (zk B im lm) := by
  have hy := (ze_go (i := 151) rfl 1 rfl (zeA2 c0 rfl) : zeRun 151 39 [some (.ref 16), o1] [.int s2, .ref 134, .ref 16] (zk B im lm) = _)
  exact hy.trans (by rw [hx]; rfl)
theorem d_151_39_1 {B : zeB} {im : Nat → Nat → Int32} {lm : Nat → Nat → Int64} (o1 : Option Value) (s2 : Int32) (c0 : zeInb s2 2 = true) (hx : Int32.toNatClampNeg s2 = 1) : zeRun 151 39 [some (.ref 16), o1] [.int s2, .ref 134, .ref 16] (zk B im lm) = zeRun 151 40 [some (.ref 16), o1] [.ref 150, .ref 16] (zk B im lm) := by
  have hy := (ze_go (i := 151) rfl 1 rfl (zeA2 c0 rfl) : zeRun 151 39 [some (.ref 16), o1] [.int s2, .ref 134, .ref 16] (zk B im lm) = _)
  exact hy.trans (by rw [hx]; rfl)
theorem d_151_40 {B : zeB} {im : Nat → Nat → Int32} {lm : Nat → Nat → Int64} (o1 : Option Value)  : zeRun 151 40 [some (.ref 16), o1] [.ref 135, .ref 16] (zk B im lm) = zeBh 151 43 [some (.ref 16), o1] [] (zeRun 145 0 [some (.ref 16), some (.ref 135)] [] (zk B im lm)) := ze_call (ok := true) rfl 1 rfl rfl rfl
theorem d_151_43 {B : zeB} {im : Nat → Nat → Int32} {lm : Nat → Nat → Int64} (o1 : Option Value)  : zeRun 151 43 [some (.ref 16), o1] [] (zk B im lm) = zeBh 151 50 [some (.ref 16), o1] [] (zeRun 20 0 [some (.ref 42)] [] (zk B im lm)) := ze_call (ok := true) rfl 3 rfl rfl rfl
theorem d_151_50 {B : zeB} {im : Nat → Nat → Int32} {lm : Nat → Nat → Int64} (o1 : Option Value)  : zeRun 151 50 [some (.ref 16), o1] [] (zk B im lm) = some (some (.int (im 26 0)), (zk B im lm)) := ze_ret (ok := true) rfl 5 rfl rfl
theorem d_151_40_2 {B : zeB} {im : Nat → Nat → Int32} {lm : Nat → Nat → Int64} (o1 : Option Value)  : zeRun 151 40 [some (.ref 16), o1] [.ref 150, .ref 16] (zk B im lm) = zeBh 151 43 [some (.ref 16), o1] [] (zeRun 145 0 [some (.ref 16), some (.ref 150)] [] (zk B im lm)) := ze_call (ok := true) rfl 1 rfl rfl rfl
def m_151 (l1 : Int32) (im : zI) (lm : zJ) : zR :=
    if (if l1 < 0 then 0 else if 2 ≤ l1 then 0 else 1 : Int32) = 0 then
      some ((-10000001), im, lm)
    else
      zCk (zeInb l1 2) <|
      if (im 165 (Int32.toNatClampNeg l1)) = 0 then
        some ((-10000005), im, lm)
      else
        zBd (m_15  im lm) fun _ im2 lm2 =>
        if Int32.toNatClampNeg l1 = 0 then
          zBd (m_145_135  im2 lm2) fun _ im3 lm3 =>
          zBd (m_20  im3 lm3) fun _ im4 lm4 =>
          some ((im4 26 0), im4, lm4)
        else
        if Int32.toNatClampNeg l1 = 1 then
          zBd (m_145_150  im2 lm2) fun _ im5 lm5 =>
          zBd (m_20  im5 lm5) fun _ im6 lm6 =>
          some ((im6 26 0), im6, lm6)
        else
        none
theorem m_151_ok {B : zeB} (l1 : Int32) (im : zI) (lm : zJ) : zL B 1 (m_151 l1 im lm) (zeRun 151 0 [some (.ref 16), some (.int l1)] [] (zk B im lm)) := by
  unfold m_151
  refine zL_bdp (e := (if l1 < 0 then 0 else if 2 ≤ l1 then 0 else 1 : Int32)) (d_151_0 _) (m_148_ok _ _ _) ?_
  refine zL_if (d_151_4 _ _) (fun h => ?_) (fun h => ?_)
  · skip
    exact zL_ret (d_151_7 _ _)
  · skip
    refine zL_ck fun c1 => ?_
    refine zL_if (d_151_10 _ c1) (fun h => ?_) (fun h => ?_)
    · skip
      exact zL_ret (d_151_19 _ _)
    · skip
      refine zL_bdv (d_151_22 _) (m_15_ok _ _) fun _ im2 lm2 => ?_
      refine zL_eq (d_151_33 _) ?_
      refine zL_aa (fun h => ?_) (fun h => ?_)
      · refine zL_eq (d_151_39_0 _ _ c1 h) ?_
        refine zL_bdv (d_151_40 _) (m_145_135_ok _ _) fun _ im3 lm3 => ?_
        refine zL_bdv (d_151_43 _) (m_20_ok _ _) fun _ im4 lm4 => ?_
        exact zL_ret (d_151_50 _)
      refine zL_aa (fun h => ?_) (fun h => ?_)
      · refine zL_eq (d_151_39_1 _ _ c1 h) ?_
        refine zL_bdv (d_151_40_2 _) (m_145_150_ok _ _) fun _ im5 lm5 => ?_
        refine zL_bdv (d_151_43 _) (m_20_ok _ _) fun _ im6 lm6 => ?_
        exact zL_ret (d_151_50 _)
      exact zL_none
/-! X8_restore -/
theorem d_152_0 {B : zeB} {im : Nat → Nat → Int32} {lm : Nat → Nat → Int64} (l1 : Int32) (o2 : Option Value)  : zeRun 152 0 [some (.ref 170), some (.int l1), o2] [] (zk B im lm) = zeBh 152 6 [some (.ref 170), some (.int l1), o2] [] (zeRun 32 0 [some (.int l1), some (.int 0), some (.int 1)] [] (zk B im lm)) := ze_call (ok := true) rfl 4 rfl rfl rfl
theorem d_152_6 {B : zeB} {im : Nat → Nat → Int32} {lm : Nat → Nat → Int64} (l1 : Int32) (o2 : Option Value) (s0 : Int32)  : zeRun 152 6 [some (.ref 170), some (.int l1), o2] [.int s0] (zk B im lm) = if s0 = 0 then zeRun 152 9 [some (.ref 170), some (.int l1), o2] [] (zk B im lm) else zeRun 152 12 [some (.ref 170), some (.int l1), o2] [] (zk B im lm) := ze_if (ok := true) rfl 1 rfl rfl
theorem d_152_9 {B : zeB} {im : Nat → Nat → Int32} {lm : Nat → Nat → Int64} (o0 : Option Value) (o1 : Option Value) (o2 : Option Value)  : zeRun 152 9 [o0, o1, o2] [] (zk B im lm) = some (some (.int (-10000001)), (zk B im lm)) := ze_ret (ok := true) rfl 2 rfl rfl
theorem d_152_12 {B : zeB} {im : Nat → Nat → Int32} {lm : Nat → Nat → Int64} (l1 : Int32) (o2 : Option Value) (c0 : zeInb l1 2 = true) : zeRun 152 12 [some (.ref 170), some (.int l1), o2] [] (zk B im lm) = if (im 174 (Int32.toNatClampNeg l1)) = 0 then zeRun 152 21 [some (.ref 170), some (.int l1), o2] [] (zk B im lm) else zeRun 152 24 [some (.ref 170), some (.int l1), o2] [] (zk B im lm) := ze_if (ok := (zeInb l1 2 && true)) rfl 5 rfl (zeA2 c0 rfl)
theorem d_152_21 {B : zeB} {im : Nat → Nat → Int32} {lm : Nat → Nat → Int64} (o0 : Option Value) (o1 : Option Value) (o2 : Option Value)  : zeRun 152 21 [o0, o1, o2] [] (zk B im lm) = some (some (.int (-10000005)), (zk B im lm)) := ze_ret (ok := true) rfl 2 rfl rfl
theorem d_152_24 {B : zeB} {im : Nat → Nat → Int32} {lm : Nat → Nat → Int64} (l1 : Int32) (o2 : Option Value)  : zeRun 152 24 [some (.ref 170), some (.int l1), o2] [] (zk B im lm) = zeBh 152 28 [some (.ref 170), some (.int l1), o2] [] (zeRun 25 0 [some (.ref 170), none] [] (zk B im lm)) := ze_call (ok := true) rfl 2 rfl rfl rfl
theorem d_152_28 {B : zeB} {im : Nat → Nat → Int32} {lm : Nat → Nat → Int64} (l1 : Int32) (o2 : Option Value)  : zeRun 152 28 [some (.ref 170), some (.int l1), o2] [] (zk B im lm) = zeRun 152 30 [some (.ref 170), some (.int l1), some (.int 0)] [] (zk B im lm) := ze_go (ok := true) rfl 2 rfl rfl
theorem d_152_30 {B : zeB} {im : Nat → Nat → Int32} {lm : Nat → Nat → Int64} (l1 : Int32) (l2 : Int32)  : zeRun 152 30 [some (.ref 170), some (.int l1), some (.int l2)] [] (zk B im lm) = if 360 ≤ l2 then zeRun 152 61 [some (.ref 170), some (.int l1), some (.int l2)] [] (zk B im lm) else zeRun 152 37 [some (.ref 170), some (.int l1), some (.int l2)] [] (zk B im lm) := ze_if (ok := true) rfl 3 rfl rfl
theorem d_152_61 {B : zeB} {im : Nat → Nat → Int32} {lm : Nat → Nat → Int64} (o1 : Option Value) (o2 : Option Value)  : zeRun 152 61 [some (.ref 170), o1, o2] [] (zk B im lm) = some (some (.int (im 171 5)), (zk B im lm)) := ze_ret (ok := true) rfl 5 rfl rfl
theorem d_152_37 {B : zeB} {im : Nat → Nat → Int32} {lm : Nat → Nat → Int64} (l1 : Int32) (l2 : Int32) (c0 : zeInb ((360 * l1) + l2) 720 = true) (c1 : zeInb l2 360 = true) : zeRun 152 37 [some (.ref 170), some (.int l1), some (.int l2)] [] (zk B im lm) = zeRun 152 30 [some (.ref 170), some (.int l1), some (.int (l2 + 1))] [] (zk B (zeU2 im 171 (Int32.toNatClampNeg l2) (im 173 (Int32.toNatClampNeg ((360 * l1) + l2)))) lm) := ze_go (ok := (zeInb l2 360 && (zeInb ((360 * l1) + l2) 720 && true))) rfl 14 rfl (zeA2 c1 (zeA2 c0 rfl))
def F_152_30  : Nat → Int32 → Int32 → zI → zJ → zR
  | 0, _, _, _, _ => none
  | n + 1, l1, l2, im, lm =>
    if 360 ≤ l2 then
      some ((im 171 5), im, lm)
    else
      zCk (zeInb ((360 * l1) + l2) 720) <|
      zCk (zeInb l2 360) <|
      F_152_30  n l1 (l2 + 1) (zeU2 im 171 (Int32.toNatClampNeg l2) (im 173 (Int32.toNatClampNeg ((360 * l1) + l2)))) lm
theorem F_152_30_ok {B : zeB} : ∀ (n : Nat) (l1 : Int32) (l2 : Int32)  (im : zI) (lm : zJ), zL B 1 (F_152_30  n l1 l2 im lm) (zeRun 152 30 [some (.ref 170), some (.int l1), some (.int l2)] [] (zk B im lm)) := by
  intro n
  induction n with
  | zero => intros; exact zL_none
  | succ n ih =>
    intro l1 l2 im lm
    unfold F_152_30
    refine zL_if (d_152_30 _ _) (fun h => ?_) (fun h => ?_)
    · skip
      exact zL_ret (d_152_61 _ _)
    · skip
      refine zL_ck fun c1 => ?_
      refine zL_ck fun c2 => ?_
      refine zL_eq (d_152_37 _ _ c1 c2) ?_
      exact ih _ _ _ _
def m_152 (l1 : Int32) (im : zI) (lm : zJ) : zR :=
    if (if l1 < 0 then 0 else if 1 < l1 then 0 else 1 : Int32) = 0 then
      some ((-10000001), im, lm)
    else
      zCk (zeInb l1 2) <|
      if (im 174 (Int32.toNatClampNeg l1)) = 0 then
        some ((-10000005), im, lm)
      else
        zBd (m_25  im lm) fun _ im2 lm2 =>
        F_152_30  2000 l1 0 im2 lm2
theorem m_152_ok {B : zeB} (l1 : Int32) (im : zI) (lm : zJ) : zL B 1 (m_152 l1 im lm) (zeRun 152 0 [some (.ref 170), some (.int l1), none] [] (zk B im lm)) := by
  unfold m_152
  refine zL_bdp (e := (if l1 < 0 then 0 else if 1 < l1 then 0 else 1 : Int32)) (d_152_0 _ _) (m_32_ok _ _ _ _ _) ?_
  refine zL_if (d_152_6 _ _ _) (fun h => ?_) (fun h => ?_)
  · skip
    exact zL_ret (d_152_9 _ _ _)
  · skip
    refine zL_ck fun c1 => ?_
    refine zL_if (d_152_12 _ _ c1) (fun h => ?_) (fun h => ?_)
    · skip
      exact zL_ret (d_152_21 _ _ _)
    · skip
      refine zL_bdv (d_152_24 _ _) (m_25_ok _ _) fun _ im2 lm2 => ?_
      refine zL_eq (d_152_28 _ _) ?_
      exact F_152_30_ok  _ _ _ _ _
