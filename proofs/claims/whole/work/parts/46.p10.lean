/-! pure: X7_doBeginFinal, X7_beginFinal, X8_beginFinal, X0_isWagerWanting, X0_wagersWanting, X7_doWagerFinal, X7_wagerFinal, X8_wagerFinal, X7_doubled -/
/-! X7_doBeginFinal -/
theorem d_104_0 {B : zeB} {im : Nat → Nat → Int32} {lm : Nat → Nat → Int64} (o1 : Option Value)  : zeRun 104 0 [some (.ref 16), o1] [] (zk B im lm) = if (im 17 1) = 0 then zeRun 104 10 [some (.ref 16), o1] [] (zk B im lm) else zeRun 104 17 [some (.ref 16), o1] [] (zk B im lm) := ze_if (ok := true) rfl 4 rfl rfl
theorem d_104_10 {B : zeB} {im : Nat → Nat → Int32} {lm : Nat → Nat → Int64} (o1 : Option Value)  : zeRun 104 10 [some (.ref 16), o1] [] (zk B im lm) = zeBh 104 16 [some (.ref 16), o1] [] (zeRun 17 0 [some (.ref 16), some (.int 8)] [] (zk B im lm)) := ze_call (ok := true) rfl 3 rfl rfl rfl
theorem d_104_16 {B : zeB} {im : Nat → Nat → Int32} {lm : Nat → Nat → Int64} (o0 : Option Value) (o1 : Option Value) (s0 : Int32)  : zeRun 104 16 [o0, o1] [.int s0] (zk B im lm) = some (some (.int s0), (zk B im lm)) := ze_ret (ok := true) rfl 1 rfl rfl
theorem d_104_17 {B : zeB} {im : Nat → Nat → Int32} {lm : Nat → Nat → Int64} (o1 : Option Value)  : zeRun 104 17 [some (.ref 16), o1] [] (zk B im lm) = if (im 17 0) = 0 then zeRun 104 33 [some (.ref 16), o1] [] (zk B im lm) else zeRun 104 27 [some (.ref 16), o1] [] (zk B im lm) := ze_if (ok := true) rfl 4 rfl rfl
theorem d_104_33 {B : zeB} {im : Nat → Nat → Int32} {lm : Nat → Nat → Int64} (o1 : Option Value)  : zeRun 104 33 [some (.ref 16), o1] [] (zk B im lm) = zeBh 104 50 [some (.ref 16), o1] [] (zeRun 103 0 [some (.ref 23), some (.ref 33), none] [] (zk B im lm)) := ze_call (ok := true) rfl 7 rfl rfl rfl
theorem d_104_50 {B : zeB} {im : Nat → Nat → Int32} {lm : Nat → Nat → Int64} (o1 : Option Value)  : zeRun 104 50 [some (.ref 16), o1] [] (zk B im lm) = zeBh 104 60 [some (.ref 16), o1] [] (zeRun 83 0 [some (.ref 23), none, none, none, none, none] [] (zk B im lm)) := ze_call (ok := true) rfl 4 rfl rfl rfl
theorem d_104_60 {B : zeB} {im : Nat → Nat → Int32} {lm : Nat → Nat → Int64} (o1 : Option Value) (s0 : Int32)  : zeRun 104 60 [some (.ref 16), o1] [.int s0] (zk B im lm) = if s0 = 0 then zeRun 104 69 [some (.ref 16), some (.int s0)] [.ref 17] (zk B im lm) else zeRun 104 74 [some (.ref 16), some (.int s0)] [.ref 17] (zk B im lm) := ze_if (ok := true) rfl 5 rfl rfl
theorem d_104_69 {B : zeB} {im : Nat → Nat → Int32} {lm : Nat → Nat → Int64} (o0 : Option Value) (l1 : Int32)  : zeRun 104 69 [o0, some (.int l1)] [.ref 17] (zk B im lm) = zeRun 104 75 [o0, some (.int l1)] [.int 6, .ref 17] (zk B im lm) := ze_go (ok := true) rfl 2 rfl rfl
theorem d_104_74 {B : zeB} {im : Nat → Nat → Int32} {lm : Nat → Nat → Int64} (o0 : Option Value) (l1 : Int32)  : zeRun 104 74 [o0, some (.int l1)] [.ref 17] (zk B im lm) = zeRun 104 75 [o0, some (.int l1)] [.int 4, .ref 17] (zk B im lm) := ze_go (ok := true) rfl 1 rfl rfl
theorem d_104_27 {B : zeB} {im : Nat → Nat → Int32} {lm : Nat → Nat → Int64} (o1 : Option Value)  : zeRun 104 27 [some (.ref 16), o1] [] (zk B im lm) = zeBh 104 32 [some (.ref 16), o1] [] (zeRun 17 0 [some (.ref 16), some (.int 1)] [] (zk B im lm)) := ze_call (ok := true) rfl 3 rfl rfl rfl
theorem d_104_32 {B : zeB} {im : Nat → Nat → Int32} {lm : Nat → Nat → Int64} (o0 : Option Value) (o1 : Option Value) (s0 : Int32)  : zeRun 104 32 [o0, o1] [.int s0] (zk B im lm) = some (some (.int s0), (zk B im lm)) := ze_ret (ok := true) rfl 1 rfl rfl
theorem d_104_75 {B : zeB} {im : Nat → Nat → Int32} {lm : Nat → Nat → Int64} (o0 : Option Value) (l1 : Int32) (s1 : Int32)  : zeRun 104 75 [o0, some (.int l1)] [.int s1, .ref 17] (zk B im lm) = some (some (.int l1), (zk B (zeU2 im 17 0 s1) lm)) := ze_ret (ok := true) rfl 3 rfl rfl
def J_104_75  (l1 : Int32) (s1 : Int32) (im : zI) (lm : zJ) : zR :=
    some (l1, (zeU2 im 17 0 s1), lm)
theorem J_104_75_ok {B : zeB} (l1 : Int32) (s1 : Int32) (o0 : Option Value) (im : zI) (lm : zJ) : zL B 1 (J_104_75  l1 s1 im lm) (zeRun 104 75 [o0, some (.int l1)] [.int s1, .ref 17] (zk B im lm)) := by
  unfold J_104_75
  exact zL_ret (d_104_75 _ _ _)
def m_104  (im : zI) (lm : zJ) : zR :=
    if (im 17 1) = 0 then
      zBd (m_17 8 im lm) fun v1 im1 lm1 =>
      some (v1, im1, lm1)
    else
      if (im 17 0) = 0 then
        zBd (m_103  im lm) fun _ im2 lm2 =>
        zBd (m_83  im2 lm2) fun v3 im3 lm3 =>
        J_104_75   v3 (if v3 = 0 then 6 else 4) im3 lm3
      else
        zBd (m_17 1 im lm) fun v4 im4 lm4 =>
        some (v4, im4, lm4)
theorem m_104_ok {B : zeB}  (im : zI) (lm : zJ) : zL B 1 (m_104  im lm) (zeRun 104 0 [some (.ref 16), none] [] (zk B im lm)) := by
  unfold m_104
  refine zL_if (d_104_0 _) (fun h => ?_) (fun h => ?_)
  · skip
    refine zL_bd (d_104_10 _) (m_17_ok _ _ _) fun v1 im1 lm1 => ?_
    exact zL_ret (d_104_16 _ _ _)
  · skip
    refine zL_if (d_104_17 _) (fun h => ?_) (fun h => ?_)
    · skip
      refine zL_bdv (d_104_33 _) (m_103_ok _ _) fun _ im2 lm2 => ?_
      refine zL_bd (d_104_50 _) (m_83_ok _ _) fun v3 im3 lm3 => ?_
      refine zL_ifm (d_104_60 _ _) (fun h => ?_) (fun h => ?_)
      · repeat rw [if_pos h]
        refine zL_eq (d_104_69 _ _) ?_
        exact J_104_75_ok   _ _ _ _ _
      · repeat rw [if_neg h]
        refine zL_eq (d_104_74 _ _) ?_
        exact J_104_75_ok   _ _ _ _ _
    · skip
      refine zL_bd (d_104_27 _) (m_17_ok _ _ _) fun v4 im4 lm4 => ?_
      exact zL_ret (d_104_32 _ _ _)
/-! X7_beginFinal -/
theorem d_105_0 {B : zeB} {im : Nat → Nat → Int32} {lm : Nat → Nat → Int64}   : zeRun 105 0 [some (.ref 16)] [] (zk B im lm) = zeBh 105 11 [some (.ref 16)] [] (zeRun 15 0 [some (.ref 42), some (.ref 17)] [] (zk B im lm)) := ze_call (ok := true) rfl 5 rfl rfl rfl
theorem d_105_11 {B : zeB} {im : Nat → Nat → Int32} {lm : Nat → Nat → Int64}   : zeRun 105 11 [some (.ref 16)] [] (zk B im lm) = zeBh 105 16 [some (.ref 16)] [.ref 16] (zeRun 104 0 [some (.ref 16), none] [] (zk B im lm)) := ze_call (ok := true) rfl 3 rfl rfl rfl
theorem d_105_16 {B : zeB} {im : Nat → Nat → Int32} {lm : Nat → Nat → Int64} (o0 : Option Value) (s1 : Int32)  : zeRun 105 16 [o0] [.int s1, .ref 16] (zk B im lm) = zeBh 105 19 [o0] [] (zeRun 21 0 [some (.ref 16), some (.int s1)] [] (zk B im lm)) := ze_call (ok := true) rfl 1 rfl rfl rfl
theorem d_105_19 {B : zeB} {im : Nat → Nat → Int32} {lm : Nat → Nat → Int64} (o0 : Option Value) (s0 : Int32)  : zeRun 105 19 [o0] [.int s0] (zk B im lm) = some (some (.int s0), (zk B im lm)) := ze_ret (ok := true) rfl 1 rfl rfl
def m_105  (im : zI) (lm : zJ) : zR :=
    zBd (m_15  im lm) fun _ im1 lm1 =>
    zBd (m_104  im1 lm1) fun v2 im2 lm2 =>
    zBd (m_21 v2 im2 lm2) fun v3 im3 lm3 =>
    some (v3, im3, lm3)
theorem m_105_ok {B : zeB}  (im : zI) (lm : zJ) : zL B 1 (m_105  im lm) (zeRun 105 0 [some (.ref 16)] [] (zk B im lm)) := by
  unfold m_105
  refine zL_bdv d_105_0 (m_15_ok _ _) fun _ im1 lm1 => ?_
  refine zL_bd d_105_11 (m_104_ok _ _) fun v2 im2 lm2 => ?_
  refine zL_bd (d_105_16 _ _) (m_21_ok _ _ _) fun v3 im3 lm3 => ?_
  exact zL_ret (d_105_19 _ _)
/-! X8_beginFinal -/
theorem d_106_0 {B : zeB} {im : Nat → Nat → Int32} {lm : Nat → Nat → Int64} (o1 : Option Value) (o2 : Option Value)  : zeRun 106 0 [some (.ref 170), o1, o2] [] (zk B im lm) = if (im 171 1) = 0 then zeRun 106 9 [some (.ref 170), o1, o2] [] (zk B im lm) else zeRun 106 14 [some (.ref 170), o1, o2] [] (zk B im lm) := ze_if (ok := true) rfl 5 rfl rfl
theorem d_106_9 {B : zeB} {im : Nat → Nat → Int32} {lm : Nat → Nat → Int64} (o1 : Option Value) (o2 : Option Value)  : zeRun 106 9 [some (.ref 170), o1, o2] [] (zk B im lm) = zeRun 106 28 [some (.ref 170), o1, o2] [.int 8] (zk B im lm) := ze_go (ok := true) rfl 2 rfl rfl
theorem d_106_14 {B : zeB} {im : Nat → Nat → Int32} {lm : Nat → Nat → Int64} (o1 : Option Value) (o2 : Option Value)  : zeRun 106 14 [some (.ref 170), o1, o2] [] (zk B im lm) = if (im 171 0) = 0 then zeRun 106 27 [some (.ref 170), o1, o2] [] (zk B im lm) else zeRun 106 23 [some (.ref 170), o1, o2] [] (zk B im lm) := ze_if (ok := true) rfl 5 rfl rfl
theorem d_106_27 {B : zeB} {im : Nat → Nat → Int32} {lm : Nat → Nat → Int64} (o1 : Option Value) (o2 : Option Value)  : zeRun 106 27 [some (.ref 170), o1, o2] [] (zk B im lm) = zeRun 106 28 [some (.ref 170), o1, o2] [.int 0] (zk B im lm) := ze_go (ok := true) rfl 1 rfl rfl
theorem d_106_23 {B : zeB} {im : Nat → Nat → Int32} {lm : Nat → Nat → Int64} (o1 : Option Value) (o2 : Option Value)  : zeRun 106 23 [some (.ref 170), o1, o2] [] (zk B im lm) = zeRun 106 28 [some (.ref 170), o1, o2] [.int 1] (zk B im lm) := ze_go (ok := true) rfl 2 rfl rfl
theorem d_106_28 {B : zeB} {im : Nat → Nat → Int32} {lm : Nat → Nat → Int64} (o1 : Option Value) (o2 : Option Value) (s0 : Int32)  : zeRun 106 28 [some (.ref 170), o1, o2] [.int s0] (zk B im lm) = if s0 ≤ 0 then zeRun 106 39 [some (.ref 170), some (.int s0), o2] [] (zk B im lm) else zeRun 106 33 [some (.ref 170), some (.int s0), o2] [] (zk B im lm) := ze_if (ok := true) rfl 3 rfl rfl
theorem d_106_39 {B : zeB} {im : Nat → Nat → Int32} {lm : Nat → Nat → Int64} (o1 : Option Value) (o2 : Option Value)  : zeRun 106 39 [some (.ref 170), o1, o2] [] (zk B im lm) = zeBh 106 43 [some (.ref 170), o1, o2] [] (zeRun 25 0 [some (.ref 170), none] [] (zk B im lm)) := ze_call (ok := true) rfl 2 rfl rfl rfl
theorem d_106_43 {B : zeB} {im : Nat → Nat → Int32} {lm : Nat → Nat → Int64} (o1 : Option Value) (o2 : Option Value)  : zeRun 106 43 [some (.ref 170), o1, o2] [] (zk B im lm) = zeBh 106 47 [some (.ref 170), o1, o2] [] (zeRun 47 0 [some (.ref 170), none, none, none, none, none, none] [] (zk B im lm)) := ze_call (ok := true) rfl 2 rfl rfl rfl
theorem d_106_47 {B : zeB} {im : Nat → Nat → Int32} {lm : Nat → Nat → Int64} (o1 : Option Value) (o2 : Option Value)  : zeRun 106 47 [some (.ref 170), o1, o2] [] (zk B im lm) = zeRun 106 65 [some (.ref 170), o1, some (.int 0)] [] (zk B (zeU2 (zeU2 im 171 13 0) 171 14 0) lm) := ze_go (ok := true) rfl 12 rfl rfl
theorem d_106_33 {B : zeB} {im : Nat → Nat → Int32} {lm : Nat → Nat → Int64} (l1 : Int32) (o2 : Option Value)  : zeRun 106 33 [some (.ref 170), some (.int l1), o2] [] (zk B im lm) = zeBh 106 38 [some (.ref 170), some (.int l1), o2] [] (zeRun 24 0 [some (.ref 170), some (.int l1)] [] (zk B im lm)) := ze_call (ok := true) rfl 3 rfl rfl rfl
theorem d_106_38 {B : zeB} {im : Nat → Nat → Int32} {lm : Nat → Nat → Int64} (o0 : Option Value) (o1 : Option Value) (o2 : Option Value) (s0 : Int32)  : zeRun 106 38 [o0, o1, o2] [.int s0] (zk B im lm) = some (some (.int s0), (zk B im lm)) := ze_ret (ok := true) rfl 1 rfl rfl
theorem d_106_65 {B : zeB} {im : Nat → Nat → Int32} {lm : Nat → Nat → Int64} (o1 : Option Value) (l2 : Int32)  : zeRun 106 65 [some (.ref 170), o1, some (.int l2)] [] (zk B im lm) = if (im 171 1) ≤ l2 then zeRun 106 122 [some (.ref 170), o1, some (.int l2)] [] (zk B im lm) else zeRun 106 75 [some (.ref 170), o1, some (.int l2)] [] (zk B im lm) := ze_if (ok := true) rfl 6 rfl rfl
theorem d_106_122 {B : zeB} {im : Nat → Nat → Int32} {lm : Nat → Nat → Int64} (o1 : Option Value) (o2 : Option Value)  : zeRun 106 122 [some (.ref 170), o1, o2] [] (zk B im lm) = if (im 171 13) = 0 then zeRun 106 137 [some (.ref 170), o1, o2] [.int 0, .ref 171] (zk B im lm) else zeRun 106 142 [some (.ref 170), o1, o2] [.int 0, .ref 171] (zk B im lm) := ze_if (ok := true) rfl 8 rfl rfl
theorem d_106_137 {B : zeB} {im : Nat → Nat → Int32} {lm : Nat → Nat → Int64} (o1 : Option Value) (o2 : Option Value) (s1 : Int32)  : zeRun 106 137 [some (.ref 170), o1, o2] [.int s1, .ref 171] (zk B im lm) = zeRun 106 143 [some (.ref 170), o1, o2] [.int 6, .int s1, .ref 171] (zk B im lm) := ze_go (ok := true) rfl 2 rfl rfl
theorem d_106_142 {B : zeB} {im : Nat → Nat → Int32} {lm : Nat → Nat → Int64} (o1 : Option Value) (o2 : Option Value) (s1 : Int32)  : zeRun 106 142 [some (.ref 170), o1, o2] [.int s1, .ref 171] (zk B im lm) = zeRun 106 143 [some (.ref 170), o1, o2] [.int 4, .int s1, .ref 171] (zk B im lm) := ze_go (ok := true) rfl 1 rfl rfl
theorem d_106_75 {B : zeB} {im : Nat → Nat → Int32} {lm : Nat → Nat → Int64} (o1 : Option Value) (l2 : Int32) (c0 : zeInb l2 6 = true) : zeRun 106 75 [some (.ref 170), o1, some (.int l2)] [] (zk B im lm) = if (im 175 (Int32.toNatClampNeg l2)) ≤ 0 then zeRun 106 98 [some (.ref 170), o1, some (.int l2)] [.int (im 171 13), .int 13, .ref 171] (zk B im lm) else zeRun 106 92 [some (.ref 170), o1, some (.int l2)] [.int (im 171 13), .int 13, .ref 171] (zk B im lm) := ze_if (ok := (zeInb l2 6 && true)) rfl 10 rfl (zeA2 c0 rfl)
theorem d_106_98 {B : zeB} {im : Nat → Nat → Int32} {lm : Nat → Nat → Int64} (o1 : Option Value) (l2 : Int32) (s1 : Int32) (s2 : Int32)  : zeRun 106 98 [some (.ref 170), o1, some (.int l2)] [.int s2, .int s1, .ref 171] (zk B im lm) = zeRun 106 99 [some (.ref 170), o1, some (.int l2)] [.int 0, .int s2, .int s1, .ref 171] (zk B im lm) := ze_go (ok := true) rfl 1 rfl rfl
theorem d_106_92 {B : zeB} {im : Nat → Nat → Int32} {lm : Nat → Nat → Int64} (o1 : Option Value) (l2 : Int32) (s1 : Int32) (s2 : Int32)  : zeRun 106 92 [some (.ref 170), o1, some (.int l2)] [.int s2, .int s1, .ref 171] (zk B im lm) = zeRun 106 99 [some (.ref 170), o1, some (.int l2)] [.int (1 <<< (l2 &&& 31)), .int s2, .int s1, .ref 171] (zk B im lm) := ze_go (ok := true) rfl 4 rfl rfl
theorem d_106_99 {B : zeB} {im : Nat → Nat → Int32} {lm : Nat → Nat → Int64} (o1 : Option Value) (l2 : Int32) (s1 : Int32) (s2 : Int32) (s3 : Int32) (c0 : zeInb s1 360 = true) (c1 : zeInb l2 6 = true) (c2 : zeInb (16 + l2) 360 = true) : zeRun 106 99 [some (.ref 170), o1, some (.int l2)] [.int s3, .int s2, .int s1, .ref 171] (zk B im lm) = zeRun 106 65 [some (.ref 170), o1, some (.int (l2 + 1))] [] (zk B (zeU2 (zeU2 im 171 (Int32.toNatClampNeg s1) (s2 ||| s3)) 171 (Int32.toNatClampNeg (16 + l2)) (im 175 (Int32.toNatClampNeg l2))) lm) := ze_go (ok := (zeInb (16 + l2) 360 && (zeInb l2 6 && (zeInb s1 360 && true)))) rfl 14 rfl (zeA2 c2 (zeA2 c1 (zeA2 c0 rfl)))
theorem d_106_143 {B : zeB} {im : Nat → Nat → Int32} {lm : Nat → Nat → Int64} (o1 : Option Value) (o2 : Option Value) (s1 : Int32) (s2 : Int32) (c0 : zeInb s1 360 = true) : zeRun 106 143 [some (.ref 170), o1, o2] [.int s2, .int s1, .ref 171] (zk B im lm) = zeBh 106 154 [some (.ref 170), o1, o2] [] (zeRun 33 0 [some (.int ((zeU2 im 171 (Int32.toNatClampNeg s1) s2) 171 13)), none, none] [] (zk B (zeU2 im 171 (Int32.toNatClampNeg s1) s2) lm)) := ze_call (ok := (zeInb s1 360 && true)) rfl 6 rfl rfl (zeA2 c0 rfl)
theorem d_106_154 {B : zeB} {im : Nat → Nat → Int32} {lm : Nat → Nat → Int64} (o0 : Option Value) (o1 : Option Value) (o2 : Option Value) (s0 : Int32)  : zeRun 106 154 [o0, o1, o2] [.int s0] (zk B im lm) = some (some (.int s0), (zk B im lm)) := ze_ret (ok := true) rfl 1 rfl rfl
def J_106_143  (s1 : Int32) (s2 : Int32) (im : zI) (lm : zJ) : zR :=
    zCk (zeInb s1 360) <|
    zBd (m_33 ((zeU2 im 171 (Int32.toNatClampNeg s1) s2) 171 13) (zeU2 im 171 (Int32.toNatClampNeg s1) s2) lm) fun v1 im1 lm1 =>
    some (v1, im1, lm1)
theorem J_106_143_ok {B : zeB} (s1 : Int32) (s2 : Int32) (o1 : Option Value) (o2 : Option Value) (im : zI) (lm : zJ) : zL B 1 (J_106_143  s1 s2 im lm) (zeRun 106 143 [some (.ref 170), o1, o2] [.int s2, .int s1, .ref 171] (zk B im lm)) := by
  unfold J_106_143
  refine zL_ck fun c1 => ?_
  refine zL_bd (d_106_143 _ _ _ _ c1) (m_33_ok _ _ _) fun v1 im1 lm1 => ?_
  exact zL_ret (d_106_154 _ _ _ _)
def J_106_99 (K65 : Int32 → zI → zJ → zR) (l2 : Int32) (s1 : Int32) (s2 : Int32) (s3 : Int32) (im : zI) (lm : zJ) : zR :=
    zCk (zeInb s1 360) <|
    zCk (zeInb l2 6) <|
    zCk (zeInb (16 + l2) 360) <|
    K65 (l2 + 1) (zeU2 (zeU2 im 171 (Int32.toNatClampNeg s1) (s2 ||| s3)) 171 (Int32.toNatClampNeg (16 + l2)) (im 175 (Int32.toNatClampNeg l2))) lm
theorem J_106_99_ok {B : zeB} (K65 : Int32 → zI → zJ → zR) (hK65 : ∀ (l2 : Int32) (o1 : Option Value) (im : zI) (lm : zJ), zL B 1 (K65 l2 im lm) (zeRun 106 65 [some (.ref 170), o1, some (.int l2)] [] (zk B im lm))) (l2 : Int32) (s1 : Int32) (s2 : Int32) (s3 : Int32) (o1 : Option Value) (im : zI) (lm : zJ) : zL B 1 (J_106_99 K65 l2 s1 s2 s3 im lm) (zeRun 106 99 [some (.ref 170), o1, some (.int l2)] [.int s3, .int s2, .int s1, .ref 171] (zk B im lm)) := by
  unfold J_106_99
  refine zL_ck fun c1 => ?_
  refine zL_ck fun c2 => ?_
  refine zL_ck fun c3 => ?_
  refine zL_eq (d_106_99 _ _ _ _ _ c1 c2 c3) ?_
  exact hK65 _ _ _ _
def F_106_65  : Nat → Int32 → zI → zJ → zR
  | 0, _, _, _ => none
  | n + 1, l2, im, lm =>
    if (im 171 1) ≤ l2 then
      J_106_143   0 (if (im 171 13) = 0 then 6 else 4) im lm
    else
      zCk (zeInb l2 6) <|
      J_106_99 (F_106_65  n)  l2 13 (im 171 13) (if (im 175 (Int32.toNatClampNeg l2)) ≤ 0 then 0 else (1 <<< (l2 &&& 31))) im lm
theorem F_106_65_ok {B : zeB} : ∀ (n : Nat) (l2 : Int32) (o1 : Option Value) (im : zI) (lm : zJ), zL B 1 (F_106_65  n l2 im lm) (zeRun 106 65 [some (.ref 170), o1, some (.int l2)] [] (zk B im lm)) := by
  intro n
  induction n with
  | zero => intros; exact zL_none
  | succ n ih =>
    intro l2 o1 im lm
    unfold F_106_65
    refine zL_if (d_106_65 _ _) (fun h => ?_) (fun h => ?_)
    · skip
      refine zL_ifm (d_106_122 _ _) (fun h => ?_) (fun h => ?_)
      · repeat rw [if_pos h]
        refine zL_eq (d_106_137 _ _ _) ?_
        exact J_106_143_ok   _ _ _ _ _ _
      · repeat rw [if_neg h]
        refine zL_eq (d_106_142 _ _ _) ?_
        exact J_106_143_ok   _ _ _ _ _ _
    · skip
      refine zL_ck fun c1 => ?_
      refine zL_ifm (d_106_75 _ _ c1) (fun h => ?_) (fun h => ?_)
      · repeat rw [if_pos h]
        refine zL_eq (d_106_98 _ _ _ _) ?_
        exact J_106_99_ok _ ih  _ _ _ _ _ _ _
      · repeat rw [if_neg h]
        refine zL_eq (d_106_92 _ _ _ _) ?_
        exact J_106_99_ok _ ih  _ _ _ _ _ _ _
def J_106_28  (s0 : Int32) (im : zI) (lm : zJ) : zR :=
    if s0 ≤ 0 then
      zBd (m_25  im lm) fun _ im1 lm1 =>
      zBd (m_47  im1 lm1) fun _ im2 lm2 =>
      F_106_65  2000 0 (zeU2 (zeU2 im2 171 13 0) 171 14 0) lm2
    else
      zBd (m_24 s0 im lm) fun v3 im3 lm3 =>
      some (v3, im3, lm3)
theorem J_106_28_ok {B : zeB} (s0 : Int32) (o1 : Option Value) (o2 : Option Value) (im : zI) (lm : zJ) : zL B 1 (J_106_28  s0 im lm) (zeRun 106 28 [some (.ref 170), o1, o2] [.int s0] (zk B im lm)) := by
  unfold J_106_28
  refine zL_if (d_106_28 _ _ _) (fun h => ?_) (fun h => ?_)
  · skip
    refine zL_bdv (d_106_39 _ _) (m_25_ok _ _) fun _ im1 lm1 => ?_
    refine zL_bdv (d_106_43 _ _) (m_47_ok _ _) fun _ im2 lm2 => ?_
    refine zL_eq (d_106_47 _ _) ?_
    exact F_106_65_ok  _ _ _ _ _
  · skip
    refine zL_bd (d_106_33 _ _) (m_24_ok _ _ _) fun v3 im3 lm3 => ?_
    exact zL_ret (d_106_38 _ _ _ _)
def m_106  (im : zI) (lm : zJ) : zR :=
    J_106_28   (if (im 171 1) = 0 then 8 else if (im 171 0) = 0 then 0 else 1) im lm
theorem m_106_ok {B : zeB}  (im : zI) (lm : zJ) : zL B 1 (m_106  im lm) (zeRun 106 0 [some (.ref 170), none, none] [] (zk B im lm)) := by
  unfold m_106
  refine zL_ifm (d_106_0 _ _) (fun h => ?_) (fun h => ?_)
  · repeat rw [if_pos h]
    refine zL_eq (d_106_9 _ _) ?_
    exact J_106_28_ok   _ _ _ _ _
  · repeat rw [if_neg h]
    refine zL_ifm (d_106_14 _ _) (fun h => ?_) (fun h => ?_)
    · repeat rw [if_pos h]
      refine zL_eq (d_106_27 _ _) ?_
      exact J_106_28_ok   _ _ _ _ _
    · repeat rw [if_neg h]
      refine zL_eq (d_106_23 _ _) ?_
      exact J_106_28_ok   _ _ _ _ _
/-! X0_isWagerWanting -/
theorem d_107_0 {B : zeB} {im : Nat → Nat → Int32} {lm : Nat → Nat → Int64} (l1 : Int32) (c0 : zeInb l1 6 = true) : zeRun 107 0 [some (.ref 23), some (.int l1)] [] (zk B im lm) = if (im 24 (Int32.toNatClampNeg l1)) ≤ 0 then zeRun 107 24 [some (.ref 23), some (.int l1)] [] (zk B im lm) else zeRun 107 9 [some (.ref 23), some (.int l1)] [] (zk B im lm) := ze_if (ok := (zeInb l1 6 && true)) rfl 5 rfl (zeA2 c0 rfl)
theorem d_107_24 {B : zeB} {im : Nat → Nat → Int32} {lm : Nat → Nat → Int64} (o0 : Option Value) (o1 : Option Value)  : zeRun 107 24 [o0, o1] [] (zk B im lm) = some (some (.int 0), (zk B im lm)) := ze_ret (ok := true) rfl 2 rfl rfl
theorem d_107_9 {B : zeB} {im : Nat → Nat → Int32} {lm : Nat → Nat → Int64} (l1 : Int32) (c0 : zeInb l1 6 = true) : zeRun 107 9 [some (.ref 23), some (.int l1)] [] (zk B im lm) = if (im 25 (Int32.toNatClampNeg l1)) = (-10000005) then zeRun 107 20 [some (.ref 23), some (.int l1)] [] (zk B im lm) else zeRun 107 24 [some (.ref 23), some (.int l1)] [] (zk B im lm) := ze_if (ok := (zeInb l1 6 && true)) rfl 6 rfl (zeA2 c0 rfl)
theorem d_107_20 {B : zeB} {im : Nat → Nat → Int32} {lm : Nat → Nat → Int64} (o0 : Option Value) (o1 : Option Value)  : zeRun 107 20 [o0, o1] [] (zk B im lm) = some (some (.int 1), (zk B im lm)) := ze_ret (ok := true) rfl 3 rfl rfl
def m_107 (l1 : Int32) (im : zI) (lm : zJ) : zR :=
    zCk (zeInb l1 6) <|
    some (if (im 24 (Int32.toNatClampNeg l1)) ≤ 0 then 0 else if (im 25 (Int32.toNatClampNeg l1)) = (-10000005) then 1 else 0, im, lm)
theorem m_107_ok {B : zeB} (l1 : Int32) (im : zI) (lm : zJ) : zL B 1 (m_107 l1 im lm) (zeRun 107 0 [some (.ref 23), some (.int l1)] [] (zk B im lm)) := by
  unfold m_107
  refine zL_ck fun c1 => ?_
  refine zL_ifm (d_107_0 _ c1) (fun h => ?_) (fun h => ?_)
  · repeat rw [if_pos h]
    exact zL_ret (d_107_24 _ _)
  · repeat rw [if_neg h]
    refine zL_ifm (d_107_9 _ c1) (fun h => ?_) (fun h => ?_)
    · repeat rw [if_pos h]
      exact zL_ret (d_107_20 _ _)
    · repeat rw [if_neg h]
      exact zL_ret (d_107_24 _ _)
/-! X0_wagersWanting -/
theorem d_108_0 {B : zeB} {im : Nat → Nat → Int32} {lm : Nat → Nat → Int64} (o1 : Option Value) (o2 : Option Value)  : zeRun 108 0 [some (.ref 23), o1, o2] [] (zk B im lm) = zeRun 108 4 [some (.ref 23), some (.int 0), some (.int 0)] [] (zk B im lm) := ze_go (ok := true) rfl 4 rfl rfl
theorem d_108_4 {B : zeB} {im : Nat → Nat → Int32} {lm : Nat → Nat → Int64} (l1 : Int32) (l2 : Int32)  : zeRun 108 4 [some (.ref 23), some (.int l1), some (.int l2)] [] (zk B im lm) = if 6 ≤ l2 then zeRun 108 27 [some (.ref 23), some (.int l1), some (.int l2)] [] (zk B im lm) else zeRun 108 10 [some (.ref 23), some (.int l1), some (.int l2)] [] (zk B im lm) := ze_if (ok := true) rfl 3 rfl rfl
theorem d_108_27 {B : zeB} {im : Nat → Nat → Int32} {lm : Nat → Nat → Int64} (o0 : Option Value) (l1 : Int32) (o2 : Option Value)  : zeRun 108 27 [o0, some (.int l1), o2] [] (zk B im lm) = some (some (.int l1), (zk B im lm)) := ze_ret (ok := true) rfl 2 rfl rfl
theorem d_108_10 {B : zeB} {im : Nat → Nat → Int32} {lm : Nat → Nat → Int64} (l1 : Int32) (l2 : Int32)  : zeRun 108 10 [some (.ref 23), some (.int l1), some (.int l2)] [] (zk B im lm) = zeBh 108 15 [some (.ref 23), some (.int l1), some (.int l2)] [] (zeRun 107 0 [some (.ref 23), some (.int l2)] [] (zk B im lm)) := ze_call (ok := true) rfl 3 rfl rfl rfl
theorem d_108_15 {B : zeB} {im : Nat → Nat → Int32} {lm : Nat → Nat → Int64} (l1 : Int32) (l2 : Int32) (s0 : Int32)  : zeRun 108 15 [some (.ref 23), some (.int l1), some (.int l2)] [.int s0] (zk B im lm) = if s0 = 0 then zeRun 108 21 [some (.ref 23), some (.int l1), some (.int l2)] [] (zk B im lm) else zeRun 108 18 [some (.ref 23), some (.int l1), some (.int l2)] [] (zk B im lm) := ze_if (ok := true) rfl 1 rfl rfl
theorem d_108_21 {B : zeB} {im : Nat → Nat → Int32} {lm : Nat → Nat → Int64} (l1 : Int32) (l2 : Int32)  : zeRun 108 21 [some (.ref 23), some (.int l1), some (.int l2)] [] (zk B im lm) = zeRun 108 4 [some (.ref 23), some (.int l1), some (.int (l2 + 1))] [] (zk B im lm) := ze_go (ok := true) rfl 2 rfl rfl
theorem d_108_18 {B : zeB} {im : Nat → Nat → Int32} {lm : Nat → Nat → Int64} (l1 : Int32) (l2 : Int32)  : zeRun 108 18 [some (.ref 23), some (.int l1), some (.int l2)] [] (zk B im lm) = zeRun 108 4 [some (.ref 23), some (.int (l1 + 1)), some (.int (l2 + 1))] [] (zk B im lm) := ze_go (ok := true) rfl 3 rfl rfl
def F_108_4  : Nat → Int32 → Int32 → zI → zJ → zR
  | 0, _, _, _, _ => none
  | n + 1, l1, l2, im, lm =>
    if 6 ≤ l2 then
      some (l1, im, lm)
    else
      zBd (m_107 l2 im lm) fun v1 im1 lm1 =>
      F_108_4  n (if v1 = 0 then l1 else (l1 + 1)) (l2 + 1) im1 lm1
theorem F_108_4_ok {B : zeB} : ∀ (n : Nat) (l1 : Int32) (l2 : Int32)  (im : zI) (lm : zJ), zL B 1 (F_108_4  n l1 l2 im lm) (zeRun 108 4 [some (.ref 23), some (.int l1), some (.int l2)] [] (zk B im lm)) := by
  intro n
  induction n with
  | zero => intros; exact zL_none
  | succ n ih =>
    intro l1 l2 im lm
    unfold F_108_4
    refine zL_if (d_108_4 _ _) (fun h => ?_) (fun h => ?_)
    · skip
      exact zL_ret (d_108_27 _ _ _)
    · skip
      refine zL_bd (d_108_10 _ _) (m_107_ok _ _ _) fun v1 im1 lm1 => ?_
      refine zL_ifm (d_108_15 _ _ _) (fun h => ?_) (fun h => ?_)
      · repeat rw [if_pos h]
        refine zL_eq (d_108_21 _ _) ?_
        exact ih _ _ _ _
      · repeat rw [if_neg h]
        refine zL_eq (d_108_18 _ _) ?_
        exact ih _ _ _ _
def m_108  (im : zI) (lm : zJ) : zR :=
    F_108_4  2000 0 0 im lm
theorem m_108_ok {B : zeB}  (im : zI) (lm : zJ) : zL B 1 (m_108  im lm) (zeRun 108 0 [some (.ref 23), none, none] [] (zk B im lm)) := by
  unfold m_108
  refine zL_eq (d_108_0 _ _) ?_
  exact F_108_4_ok  _ _ _ _ _
/-! X7_doWagerFinal -/
theorem d_109_0 {B : zeB} {im : Nat → Nat → Int32} {lm : Nat → Nat → Int64} (l1 : Int32) (l2 : Int32) (o3 : Option Value)  : zeRun 109 0 [some (.ref 16), some (.int l1), some (.int l2), o3] [] (zk B im lm) = zeBh 109 5 [some (.ref 16), some (.int l1), some (.int l2), o3] [] (zeRun 38 0 [some (.ref 16), some (.int l1)] [] (zk B im lm)) := ze_call (ok := true) rfl 3 rfl rfl rfl
theorem d_109_5 {B : zeB} {im : Nat → Nat → Int32} {lm : Nat → Nat → Int64} (l1 : Int32) (l2 : Int32) (o3 : Option Value) (s0 : Int32)  : zeRun 109 5 [some (.ref 16), some (.int l1), some (.int l2), o3] [.int s0] (zk B im lm) = if s0 = 0 then zeRun 109 8 [some (.ref 16), some (.int l1), some (.int l2), o3] [] (zk B im lm) else zeRun 109 11 [some (.ref 16), some (.int l1), some (.int l2), o3] [] (zk B im lm) := ze_if (ok := true) rfl 1 rfl rfl
theorem d_109_8 {B : zeB} {im : Nat → Nat → Int32} {lm : Nat → Nat → Int64} (o0 : Option Value) (o1 : Option Value) (o2 : Option Value) (o3 : Option Value)  : zeRun 109 8 [o0, o1, o2, o3] [] (zk B im lm) = some (some (.int (-10000001)), (zk B im lm)) := ze_ret (ok := true) rfl 2 rfl rfl
theorem d_109_11 {B : zeB} {im : Nat → Nat → Int32} {lm : Nat → Nat → Int64} (l1 : Int32) (l2 : Int32) (o3 : Option Value)  : zeRun 109 11 [some (.ref 16), some (.int l1), some (.int l2), o3] [] (zk B im lm) = if l2 < 0 then zeRun 109 22 [some (.ref 16), some (.int l1), some (.int l2), o3] [] (zk B im lm) else zeRun 109 15 [some (.ref 16), some (.int l1), some (.int l2), o3] [] (zk B im lm) := ze_if (ok := true) rfl 2 rfl rfl
theorem d_109_22 {B : zeB} {im : Nat → Nat → Int32} {lm : Nat → Nat → Int64} (o0 : Option Value) (o1 : Option Value) (o2 : Option Value) (o3 : Option Value)  : zeRun 109 22 [o0, o1, o2, o3] [] (zk B im lm) = some (some (.int (-10000002)), (zk B im lm)) := ze_ret (ok := true) rfl 2 rfl rfl
theorem d_109_15 {B : zeB} {im : Nat → Nat → Int32} {lm : Nat → Nat → Int64} (l1 : Int32) (l2 : Int32) (o3 : Option Value)  : zeRun 109 15 [some (.ref 16), some (.int l1), some (.int l2), o3] [] (zk B im lm) = if l2 ≤ 100000 then zeRun 109 25 [some (.ref 16), some (.int l1), some (.int l2), o3] [] (zk B im lm) else zeRun 109 22 [some (.ref 16), some (.int l1), some (.int l2), o3] [] (zk B im lm) := ze_if (ok := true) rfl 3 rfl rfl
theorem d_109_25 {B : zeB} {im : Nat → Nat → Int32} {lm : Nat → Nat → Int64} (l1 : Int32) (l2 : Int32) (o3 : Option Value)  : zeRun 109 25 [some (.ref 16), some (.int l1), some (.int l2), o3] [] (zk B im lm) = if (im 17 0) = 4 then zeRun 109 42 [some (.ref 16), some (.int l1), some (.int l2), o3] [] (zk B im lm) else zeRun 109 36 [some (.ref 16), some (.int l1), some (.int l2), o3] [] (zk B im lm) := ze_if (ok := true) rfl 5 rfl rfl
theorem d_109_42 {B : zeB} {im : Nat → Nat → Int32} {lm : Nat → Nat → Int64} (l1 : Int32) (l2 : Int32) (o3 : Option Value)  : zeRun 109 42 [some (.ref 16), some (.int l1), some (.int l2), o3] [] (zk B im lm) = zeBh 109 53 [some (.ref 16), some (.int l1), some (.int l2), o3] [] (zeRun 107 0 [some (.ref 23), some (.int l1)] [] (zk B im lm)) := ze_call (ok := true) rfl 5 rfl rfl rfl
theorem d_109_53 {B : zeB} {im : Nat → Nat → Int32} {lm : Nat → Nat → Int64} (l1 : Int32) (l2 : Int32) (o3 : Option Value) (s0 : Int32)  : zeRun 109 53 [some (.ref 16), some (.int l1), some (.int l2), o3] [.int s0] (zk B im lm) = if s0 = 0 then zeRun 109 56 [some (.ref 16), some (.int l1), some (.int l2), o3] [] (zk B im lm) else zeRun 109 63 [some (.ref 16), some (.int l1), some (.int l2), o3] [] (zk B im lm) := ze_if (ok := true) rfl 1 rfl rfl
theorem d_109_56 {B : zeB} {im : Nat → Nat → Int32} {lm : Nat → Nat → Int64} (o1 : Option Value) (o2 : Option Value) (o3 : Option Value)  : zeRun 109 56 [some (.ref 16), o1, o2, o3] [] (zk B im lm) = zeBh 109 62 [some (.ref 16), o1, o2, o3] [] (zeRun 17 0 [some (.ref 16), some (.int 6)] [] (zk B im lm)) := ze_call (ok := true) rfl 3 rfl rfl rfl
theorem d_109_62 {B : zeB} {im : Nat → Nat → Int32} {lm : Nat → Nat → Int64} (o0 : Option Value) (o1 : Option Value) (o2 : Option Value) (o3 : Option Value) (s0 : Int32)  : zeRun 109 62 [o0, o1, o2, o3] [.int s0] (zk B im lm) = some (some (.int s0), (zk B im lm)) := ze_ret (ok := true) rfl 1 rfl rfl
theorem d_109_63 {B : zeB} {im : Nat → Nat → Int32} {lm : Nat → Nat → Int64} (l1 : Int32) (l2 : Int32) (o3 : Option Value) (c0 : zeInb l1 6 = true) : zeRun 109 63 [some (.ref 16), some (.int l1), some (.int l2), o3] [] (zk B im lm) = if l2 ≤ (im 24 (Int32.toNatClampNeg l1)) then zeRun 109 85 [some (.ref 16), some (.int l1), some (.int l2), o3] [] (zk B im lm) else zeRun 109 79 [some (.ref 16), some (.int l1), some (.int l2), o3] [] (zk B im lm) := ze_if (ok := (zeInb l1 6 && true)) rfl 8 rfl (zeA2 c0 rfl)
theorem d_109_85 {B : zeB} {im : Nat → Nat → Int32} {lm : Nat → Nat → Int64} (l1 : Int32) (l2 : Int32) (o3 : Option Value) (c0 : zeInb l1 6 = true) : zeRun 109 85 [some (.ref 16), some (.int l1), some (.int l2), o3] [] (zk B im lm) = zeBh 109 108 [some (.ref 16), some (.int l1), some (.int l2), o3] [] (zeRun 108 0 [some (.ref 23), none, none] [] (zk B (zeU2 im 25 (Int32.toNatClampNeg l1) l2) lm)) := ze_call (ok := (zeInb l1 6 && true)) rfl 11 rfl rfl (zeA2 c0 rfl)
theorem d_109_108 {B : zeB} {im : Nat → Nat → Int32} {lm : Nat → Nat → Int64} (o1 : Option Value) (o2 : Option Value) (o3 : Option Value) (s0 : Int32)  : zeRun 109 108 [some (.ref 16), o1, o2, o3] [.int s0] (zk B im lm) = if s0 = 0 then zeRun 109 113 [some (.ref 16), o1, o2, some (.int s0)] [] (zk B im lm) else zeRun 109 121 [some (.ref 16), o1, o2, some (.int s0)] [] (zk B im lm) := ze_if (ok := true) rfl 3 rfl rfl
theorem d_109_113 {B : zeB} {im : Nat → Nat → Int32} {lm : Nat → Nat → Int64} (o1 : Option Value) (o2 : Option Value) (l3 : Int32)  : zeRun 109 113 [some (.ref 16), o1, o2, some (.int l3)] [] (zk B im lm) = some (some (.int l3), (zk B (zeU2 im 17 0 5) lm)) := ze_ret (ok := true) rfl 6 rfl rfl
theorem d_109_121 {B : zeB} {im : Nat → Nat → Int32} {lm : Nat → Nat → Int64} (o0 : Option Value) (o1 : Option Value) (o2 : Option Value) (l3 : Int32)  : zeRun 109 121 [o0, o1, o2, some (.int l3)] [] (zk B im lm) = some (some (.int l3), (zk B im lm)) := ze_ret (ok := true) rfl 2 rfl rfl
theorem d_109_79 {B : zeB} {im : Nat → Nat → Int32} {lm : Nat → Nat → Int64} (o1 : Option Value) (o2 : Option Value) (o3 : Option Value)  : zeRun 109 79 [some (.ref 16), o1, o2, o3] [] (zk B im lm) = zeBh 109 84 [some (.ref 16), o1, o2, o3] [] (zeRun 17 0 [some (.ref 16), some (.int 5)] [] (zk B im lm)) := ze_call (ok := true) rfl 3 rfl rfl rfl
theorem d_109_84 {B : zeB} {im : Nat → Nat → Int32} {lm : Nat → Nat → Int64} (o0 : Option Value) (o1 : Option Value) (o2 : Option Value) (o3 : Option Value) (s0 : Int32)  : zeRun 109 84 [o0, o1, o2, o3] [.int s0] (zk B im lm) = some (some (.int s0), (zk B im lm)) := ze_ret (ok := true) rfl 1 rfl rfl
theorem d_109_36 {B : zeB} {im : Nat → Nat → Int32} {lm : Nat → Nat → Int64} (o1 : Option Value) (o2 : Option Value) (o3 : Option Value)  : zeRun 109 36 [some (.ref 16), o1, o2, o3] [] (zk B im lm) = zeBh 109 41 [some (.ref 16), o1, o2, o3] [] (zeRun 17 0 [some (.ref 16), some (.int 1)] [] (zk B im lm)) := ze_call (ok := true) rfl 3 rfl rfl rfl
theorem d_109_41 {B : zeB} {im : Nat → Nat → Int32} {lm : Nat → Nat → Int64} (o0 : Option Value) (o1 : Option Value) (o2 : Option Value) (o3 : Option Value) (s0 : Int32)  : zeRun 109 41 [o0, o1, o2, o3] [.int s0] (zk B im lm) = some (some (.int s0), (zk B im lm)) := ze_ret (ok := true) rfl 1 rfl rfl
def m_109 (l1 : Int32) (l2 : Int32) (im : zI) (lm : zJ) : zR :=
    if (if l1 < 0 then 0 else if (im 17 1) ≤ l1 then 0 else 1 : Int32) = 0 then
      some ((-10000001), im, lm)
    else
      if l2 < 0 then
        some ((-10000002), im, lm)
      else
        if l2 ≤ 100000 then
          if (im 17 0) = 4 then
            zBd (m_107 l1 im lm) fun v2 im2 lm2 =>
            if v2 = 0 then
              zBd (m_17 6 im2 lm2) fun v3 im3 lm3 =>
              some (v3, im3, lm3)
            else
              zCk (zeInb l1 6) <|
              if l2 ≤ (im2 24 (Int32.toNatClampNeg l1)) then
                zBd (m_108  (zeU2 im2 25 (Int32.toNatClampNeg l1) l2) lm2) fun v4 im4 lm4 =>
                some (v4, if v4 = 0 then (zeU2 im4 17 0 5) else im4, lm4)
              else
                zBd (m_17 5 im2 lm2) fun v5 im5 lm5 =>
                some (v5, im5, lm5)
          else
            zBd (m_17 1 im lm) fun v6 im6 lm6 =>
            some (v6, im6, lm6)
        else
          some ((-10000002), im, lm)
theorem m_109_ok {B : zeB} (l1 : Int32) (l2 : Int32) (im : zI) (lm : zJ) : zL B 1 (m_109 l1 l2 im lm) (zeRun 109 0 [some (.ref 16), some (.int l1), some (.int l2), none] [] (zk B im lm)) := by
  unfold m_109
  refine zL_bdp (e := (if l1 < 0 then 0 else if (im 17 1) ≤ l1 then 0 else 1 : Int32)) (d_109_0 _ _ _) (m_38_ok _ _ _) ?_
  refine zL_if (d_109_5 _ _ _ _) (fun h => ?_) (fun h => ?_)
  · skip
    exact zL_ret (d_109_8 _ _ _ _)
  · skip
    refine zL_if (d_109_11 _ _ _) (fun h => ?_) (fun h => ?_)
    · skip
      exact zL_ret (d_109_22 _ _ _ _)
    · skip
      refine zL_if (d_109_15 _ _ _) (fun h => ?_) (fun h => ?_)
      · skip
        refine zL_if (d_109_25 _ _ _) (fun h => ?_) (fun h => ?_)
        · skip
          refine zL_bd (d_109_42 _ _ _) (m_107_ok _ _ _) fun v2 im2 lm2 => ?_
          refine zL_if (d_109_53 _ _ _ _) (fun h => ?_) (fun h => ?_)
          · skip
            refine zL_bd (d_109_56 _ _ _) (m_17_ok _ _ _) fun v3 im3 lm3 => ?_
            exact zL_ret (d_109_62 _ _ _ _ _)
          · skip
            refine zL_ck fun c1 => ?_
            refine zL_if (d_109_63 _ _ _ c1) (fun h => ?_) (fun h => ?_)
            · skip
              refine zL_bd (d_109_85 _ _ _ c1) (m_108_ok _ _) fun v4 im4 lm4 => ?_
              refine zL_ifm (d_109_108 _ _ _ _) (fun h => ?_) (fun h => ?_)
              · repeat rw [if_pos h]
                exact zL_ret (d_109_113 _ _ _)
              · repeat rw [if_neg h]
                exact zL_ret (d_109_121 _ _ _ _)
            · skip
              refine zL_bd (d_109_79 _ _ _) (m_17_ok _ _ _) fun v5 im5 lm5 => ?_
              exact zL_ret (d_109_84 _ _ _ _ _)
        · skip
          refine zL_bd (d_109_36 _ _ _) (m_17_ok _ _ _) fun v6 im6 lm6 => ?_
          exact zL_ret (d_109_41 _ _ _ _ _)
      · skip
        exact zL_ret (d_109_22 _ _ _ _)
/-! X7_wagerFinal -/
theorem d_110_0 {B : zeB} {im : Nat → Nat → Int32} {lm : Nat → Nat → Int64} (l1 : Int32) (l2 : Int32)  : zeRun 110 0 [some (.ref 16), some (.int l1), some (.int l2)] [] (zk B im lm) = zeBh 110 11 [some (.ref 16), some (.int l1), some (.int l2)] [] (zeRun 15 0 [some (.ref 42), some (.ref 17)] [] (zk B im lm)) := ze_call (ok := true) rfl 5 rfl rfl rfl
theorem d_110_11 {B : zeB} {im : Nat → Nat → Int32} {lm : Nat → Nat → Int64} (l1 : Int32) (l2 : Int32)  : zeRun 110 11 [some (.ref 16), some (.int l1), some (.int l2)] [] (zk B im lm) = zeBh 110 18 [some (.ref 16), some (.int l1), some (.int l2)] [.ref 16] (zeRun 109 0 [some (.ref 16), some (.int l1), some (.int l2), none] [] (zk B im lm)) := ze_call (ok := true) rfl 5 rfl rfl rfl
theorem d_110_18 {B : zeB} {im : Nat → Nat → Int32} {lm : Nat → Nat → Int64} (o0 : Option Value) (o1 : Option Value) (o2 : Option Value) (s1 : Int32)  : zeRun 110 18 [o0, o1, o2] [.int s1, .ref 16] (zk B im lm) = zeBh 110 21 [o0, o1, o2] [] (zeRun 21 0 [some (.ref 16), some (.int s1)] [] (zk B im lm)) := ze_call (ok := true) rfl 1 rfl rfl rfl
theorem d_110_21 {B : zeB} {im : Nat → Nat → Int32} {lm : Nat → Nat → Int64} (o0 : Option Value) (o1 : Option Value) (o2 : Option Value) (s0 : Int32)  : zeRun 110 21 [o0, o1, o2] [.int s0] (zk B im lm) = some (some (.int s0), (zk B im lm)) := ze_ret (ok := true) rfl 1 rfl rfl
def m_110 (l1 : Int32) (l2 : Int32) (im : zI) (lm : zJ) : zR :=
    zBd (m_15  im lm) fun _ im1 lm1 =>
    zBd (m_109 l1 l2 im1 lm1) fun v2 im2 lm2 =>
    zBd (m_21 v2 im2 lm2) fun v3 im3 lm3 =>
    some (v3, im3, lm3)
theorem m_110_ok {B : zeB} (l1 : Int32) (l2 : Int32) (im : zI) (lm : zJ) : zL B 1 (m_110 l1 l2 im lm) (zeRun 110 0 [some (.ref 16), some (.int l1), some (.int l2)] [] (zk B im lm)) := by
  unfold m_110
  refine zL_bdv (d_110_0 _ _) (m_15_ok _ _) fun _ im1 lm1 => ?_
  refine zL_bd (d_110_11 _ _) (m_109_ok _ _ _ _) fun v2 im2 lm2 => ?_
  refine zL_bd (d_110_18 _ _ _ _) (m_21_ok _ _ _) fun v3 im3 lm3 => ?_
  exact zL_ret (d_110_21 _ _ _ _)
/-! X8_wagerFinal -/
theorem d_111_0 {B : zeB} {im : Nat → Nat → Int32} {lm : Nat → Nat → Int64} (l1 : Int32) (l2 : Int32) (o3 : Option Value) (o4 : Option Value) (o5 : Option Value)  : zeRun 111 0 [some (.ref 170), some (.int l1), some (.int l2), o3, o4, o5] [] (zk B im lm) = zeBh 111 5 [some (.ref 170), some (.int l1), some (.int l2), o3, o4, o5] [] (zeRun 44 0 [some (.ref 170), some (.int l1)] [] (zk B im lm)) := ze_call (ok := true) rfl 3 rfl rfl rfl
theorem d_111_5 {B : zeB} {im : Nat → Nat → Int32} {lm : Nat → Nat → Int64} (l1 : Int32) (l2 : Int32) (o3 : Option Value) (o4 : Option Value) (o5 : Option Value) (s0 : Int32)  : zeRun 111 5 [some (.ref 170), some (.int l1), some (.int l2), o3, o4, o5] [.int s0] (zk B im lm) = if s0 = 0 then zeRun 111 11 [some (.ref 170), some (.int l1), some (.int l2), o3, o4, o5] [] (zk B im lm) else zeRun 111 8 [some (.ref 170), some (.int l1), some (.int l2), o3, o4, o5] [] (zk B im lm) := ze_if (ok := true) rfl 1 rfl rfl
theorem d_111_11 {B : zeB} {im : Nat → Nat → Int32} {lm : Nat → Nat → Int64} (l1 : Int32) (l2 : Int32) (o3 : Option Value) (o4 : Option Value) (o5 : Option Value)  : zeRun 111 11 [some (.ref 170), some (.int l1), some (.int l2), o3, o4, o5] [] (zk B im lm) = zeBh 111 18 [some (.ref 170), some (.int l1), some (.int l2), o3, o4, o5] [] (zeRun 32 0 [some (.int l2), some (.int 0), some (.int 100000)] [] (zk B im lm)) := ze_call (ok := true) rfl 4 rfl rfl rfl
theorem d_111_18 {B : zeB} {im : Nat → Nat → Int32} {lm : Nat → Nat → Int64} (l1 : Int32) (l2 : Int32) (o3 : Option Value) (o4 : Option Value) (o5 : Option Value) (s0 : Int32)  : zeRun 111 18 [some (.ref 170), some (.int l1), some (.int l2), o3, o4, o5] [.int s0] (zk B im lm) = if s0 = 0 then zeRun 111 21 [some (.ref 170), some (.int l1), some (.int l2), o3, o4, o5] [] (zk B im lm) else zeRun 111 24 [some (.ref 170), some (.int l1), some (.int l2), o3, o4, o5] [] (zk B im lm) := ze_if (ok := true) rfl 1 rfl rfl
theorem d_111_21 {B : zeB} {im : Nat → Nat → Int32} {lm : Nat → Nat → Int64} (o0 : Option Value) (o1 : Option Value) (o2 : Option Value) (o3 : Option Value) (o4 : Option Value) (o5 : Option Value)  : zeRun 111 21 [o0, o1, o2, o3, o4, o5] [] (zk B im lm) = some (some (.int (-10000002)), (zk B im lm)) := ze_ret (ok := true) rfl 2 rfl rfl
theorem d_111_24 {B : zeB} {im : Nat → Nat → Int32} {lm : Nat → Nat → Int64} (l1 : Int32) (l2 : Int32) (o3 : Option Value) (o4 : Option Value) (o5 : Option Value)  : zeRun 111 24 [some (.ref 170), some (.int l1), some (.int l2), o3, o4, o5] [] (zk B im lm) = if (im 171 0) = 4 then zeRun 111 38 [some (.ref 170), some (.int l1), some (.int l2), o3, o4, o5] [] (zk B im lm) else zeRun 111 34 [some (.ref 170), some (.int l1), some (.int l2), o3, o4, o5] [] (zk B im lm) := ze_if (ok := true) rfl 6 rfl rfl
theorem d_111_38 {B : zeB} {im : Nat → Nat → Int32} {lm : Nat → Nat → Int64} (l1 : Int32) (l2 : Int32) (o3 : Option Value) (o4 : Option Value) (o5 : Option Value)  : zeRun 111 38 [some (.ref 170), some (.int l1), some (.int l2), o3, o4, o5] [] (zk B im lm) = if (((im 171 13) >>> (l1 &&& 31)) &&& 1) = 0 then zeRun 111 64 [some (.ref 170), some (.int l1), some (.int l2), o3, o4, o5] [] (zk B im lm) else zeRun 111 52 [some (.ref 170), some (.int l1), some (.int l2), o3, o4, o5] [] (zk B im lm) := ze_if (ok := true) rfl 9 rfl rfl
theorem d_111_64 {B : zeB} {im : Nat → Nat → Int32} {lm : Nat → Nat → Int64} (l1 : Int32) (l2 : Int32) (o3 : Option Value) (o4 : Option Value) (o5 : Option Value)  : zeRun 111 64 [some (.ref 170), some (.int l1), some (.int l2), o3, o4, o5] [] (zk B im lm) = zeRun 111 87 [some (.ref 170), some (.int l1), some (.int l2), o3, o4, o5] [.int 6] (zk B im lm) := ze_go (ok := true) rfl 2 rfl rfl
theorem d_111_52 {B : zeB} {im : Nat → Nat → Int32} {lm : Nat → Nat → Int64} (l1 : Int32) (l2 : Int32) (o3 : Option Value) (o4 : Option Value) (o5 : Option Value) (c0 : zeInb (22 + l1) 360 = true) : zeRun 111 52 [some (.ref 170), some (.int l1), some (.int l2), o3, o4, o5] [] (zk B im lm) = if (im 171 (Int32.toNatClampNeg (22 + l1))) < 0 then zeRun 111 69 [some (.ref 170), some (.int l1), some (.int l2), o3, o4, o5] [] (zk B im lm) else zeRun 111 64 [some (.ref 170), some (.int l1), some (.int l2), o3, o4, o5] [] (zk B im lm) := ze_if (ok := (zeInb (22 + l1) 360 && true)) rfl 7 rfl (zeA2 c0 rfl)
theorem d_111_69 {B : zeB} {im : Nat → Nat → Int32} {lm : Nat → Nat → Int64} (l1 : Int32) (l2 : Int32) (o3 : Option Value) (o4 : Option Value) (o5 : Option Value) (c0 : zeInb (16 + l1) 360 = true) : zeRun 111 69 [some (.ref 170), some (.int l1), some (.int l2), o3, o4, o5] [] (zk B im lm) = if l2 ≤ (im 171 (Int32.toNatClampNeg (16 + l1))) then zeRun 111 86 [some (.ref 170), some (.int l1), some (.int l2), o3, o4, o5] [] (zk B im lm) else zeRun 111 82 [some (.ref 170), some (.int l1), some (.int l2), o3, o4, o5] [] (zk B im lm) := ze_if (ok := (zeInb (16 + l1) 360 && true)) rfl 8 rfl (zeA2 c0 rfl)
theorem d_111_86 {B : zeB} {im : Nat → Nat → Int32} {lm : Nat → Nat → Int64} (l1 : Int32) (l2 : Int32) (o3 : Option Value) (o4 : Option Value) (o5 : Option Value)  : zeRun 111 86 [some (.ref 170), some (.int l1), some (.int l2), o3, o4, o5] [] (zk B im lm) = zeRun 111 87 [some (.ref 170), some (.int l1), some (.int l2), o3, o4, o5] [.int 0] (zk B im lm) := ze_go (ok := true) rfl 1 rfl rfl
theorem d_111_82 {B : zeB} {im : Nat → Nat → Int32} {lm : Nat → Nat → Int64} (l1 : Int32) (l2 : Int32) (o3 : Option Value) (o4 : Option Value) (o5 : Option Value)  : zeRun 111 82 [some (.ref 170), some (.int l1), some (.int l2), o3, o4, o5] [] (zk B im lm) = zeRun 111 87 [some (.ref 170), some (.int l1), some (.int l2), o3, o4, o5] [.int 5] (zk B im lm) := ze_go (ok := true) rfl 2 rfl rfl
theorem d_111_34 {B : zeB} {im : Nat → Nat → Int32} {lm : Nat → Nat → Int64} (l1 : Int32) (l2 : Int32) (o3 : Option Value) (o4 : Option Value) (o5 : Option Value)  : zeRun 111 34 [some (.ref 170), some (.int l1), some (.int l2), o3, o4, o5] [] (zk B im lm) = zeRun 111 87 [some (.ref 170), some (.int l1), some (.int l2), o3, o4, o5] [.int 1] (zk B im lm) := ze_go (ok := true) rfl 2 rfl rfl
theorem d_111_8 {B : zeB} {im : Nat → Nat → Int32} {lm : Nat → Nat → Int64} (o0 : Option Value) (o1 : Option Value) (o2 : Option Value) (o3 : Option Value) (o4 : Option Value) (o5 : Option Value)  : zeRun 111 8 [o0, o1, o2, o3, o4, o5] [] (zk B im lm) = some (some (.int (-10000001)), (zk B im lm)) := ze_ret (ok := true) rfl 2 rfl rfl
theorem d_111_87 {B : zeB} {im : Nat → Nat → Int32} {lm : Nat → Nat → Int64} (l1 : Int32) (l2 : Int32) (o3 : Option Value) (o4 : Option Value) (o5 : Option Value) (s0 : Int32)  : zeRun 111 87 [some (.ref 170), some (.int l1), some (.int l2), o3, o4, o5] [.int s0] (zk B im lm) = if s0 ≤ 0 then zeRun 111 98 [some (.ref 170), some (.int l1), some (.int l2), some (.int s0), o4, o5] [] (zk B im lm) else zeRun 111 92 [some (.ref 170), some (.int l1), some (.int l2), some (.int s0), o4, o5] [] (zk B im lm) := ze_if (ok := true) rfl 3 rfl rfl
theorem d_111_98 {B : zeB} {im : Nat → Nat → Int32} {lm : Nat → Nat → Int64} (l1 : Int32) (l2 : Int32) (o3 : Option Value) (o4 : Option Value) (o5 : Option Value)  : zeRun 111 98 [some (.ref 170), some (.int l1), some (.int l2), o3, o4, o5] [] (zk B im lm) = zeBh 111 102 [some (.ref 170), some (.int l1), some (.int l2), o3, o4, o5] [] (zeRun 25 0 [some (.ref 170), none] [] (zk B im lm)) := ze_call (ok := true) rfl 2 rfl rfl rfl
theorem d_111_102 {B : zeB} {im : Nat → Nat → Int32} {lm : Nat → Nat → Int64} (l1 : Int32) (l2 : Int32) (o3 : Option Value) (o4 : Option Value) (o5 : Option Value) (c0 : zeInb (22 + l1) 360 = true) : zeRun 111 102 [some (.ref 170), some (.int l1), some (.int l2), o3, o4, o5] [] (zk B im lm) = zeRun 111 118 [some (.ref 170), some (.int l1), some (.int l2), o3, some (.int 0), some (.int 0)] [] (zk B (zeU2 im 171 (Int32.toNatClampNeg (22 + l1)) l2) lm) := ze_go (ok := (zeInb (22 + l1) 360 && true)) rfl 11 rfl (zeA2 c0 rfl)
theorem d_111_92 {B : zeB} {im : Nat → Nat → Int32} {lm : Nat → Nat → Int64} (o1 : Option Value) (o2 : Option Value) (l3 : Int32) (o4 : Option Value) (o5 : Option Value)  : zeRun 111 92 [some (.ref 170), o1, o2, some (.int l3), o4, o5] [] (zk B im lm) = zeBh 111 97 [some (.ref 170), o1, o2, some (.int l3), o4, o5] [] (zeRun 24 0 [some (.ref 170), some (.int l3)] [] (zk B im lm)) := ze_call (ok := true) rfl 3 rfl rfl rfl
theorem d_111_97 {B : zeB} {im : Nat → Nat → Int32} {lm : Nat → Nat → Int64} (o0 : Option Value) (o1 : Option Value) (o2 : Option Value) (o3 : Option Value) (o4 : Option Value) (o5 : Option Value) (s0 : Int32)  : zeRun 111 97 [o0, o1, o2, o3, o4, o5] [.int s0] (zk B im lm) = some (some (.int s0), (zk B im lm)) := ze_ret (ok := true) rfl 1 rfl rfl
theorem d_111_118 {B : zeB} {im : Nat → Nat → Int32} {lm : Nat → Nat → Int64} (o1 : Option Value) (o2 : Option Value) (o3 : Option Value) (l4 : Int32) (l5 : Int32)  : zeRun 111 118 [some (.ref 170), o1, o2, o3, some (.int l4), some (.int l5)] [] (zk B im lm) = if (im 171 1) ≤ l5 then zeRun 111 174 [some (.ref 170), o1, o2, o3, some (.int l4), some (.int l5)] [] (zk B im lm) else zeRun 111 129 [some (.ref 170), o1, o2, o3, some (.int l4), some (.int l5)] [] (zk B im lm) := ze_if (ok := true) rfl 6 rfl rfl
theorem d_111_174 {B : zeB} {im : Nat → Nat → Int32} {lm : Nat → Nat → Int64} (o1 : Option Value) (o2 : Option Value) (o3 : Option Value) (l4 : Int32) (o5 : Option Value)  : zeRun 111 174 [some (.ref 170), o1, o2, o3, some (.int l4), o5] [] (zk B im lm) = if l4 = 0 then zeRun 111 184 [some (.ref 170), o1, o2, o3, some (.int l4), o5] [.int 0, .ref 171] (zk B im lm) else zeRun 111 188 [some (.ref 170), o1, o2, o3, some (.int l4), o5] [.int 0, .ref 171] (zk B im lm) := ze_if (ok := true) rfl 5 rfl rfl
theorem d_111_184 {B : zeB} {im : Nat → Nat → Int32} {lm : Nat → Nat → Int64} (o0 : Option Value) (o1 : Option Value) (o2 : Option Value) (o3 : Option Value) (l4 : Int32) (o5 : Option Value) (s1 : Int32)  : zeRun 111 184 [o0, o1, o2, o3, some (.int l4), o5] [.int s1, .ref 171] (zk B im lm) = zeRun 111 189 [o0, o1, o2, o3, some (.int l4), o5] [.int 5, .int s1, .ref 171] (zk B im lm) := ze_go (ok := true) rfl 2 rfl rfl
theorem d_111_188 {B : zeB} {im : Nat → Nat → Int32} {lm : Nat → Nat → Int64} (o0 : Option Value) (o1 : Option Value) (o2 : Option Value) (o3 : Option Value) (l4 : Int32) (o5 : Option Value) (s1 : Int32)  : zeRun 111 188 [o0, o1, o2, o3, some (.int l4), o5] [.int s1, .ref 171] (zk B im lm) = zeRun 111 189 [o0, o1, o2, o3, some (.int l4), o5] [.int 4, .int s1, .ref 171] (zk B im lm) := ze_go (ok := true) rfl 1 rfl rfl
theorem d_111_129 {B : zeB} {im : Nat → Nat → Int32} {lm : Nat → Nat → Int64} (o1 : Option Value) (o2 : Option Value) (o3 : Option Value) (l4 : Int32) (l5 : Int32)  : zeRun 111 129 [some (.ref 170), o1, o2, o3, some (.int l4), some (.int l5)] [] (zk B im lm) = if (((im 171 13) >>> (l5 &&& 31)) &&& 1) = 1 then zeRun 111 147 [some (.ref 170), o1, o2, o3, some (.int l4), some (.int l5)] [.int l4] (zk B im lm) else zeRun 111 164 [some (.ref 170), o1, o2, o3, some (.int l4), some (.int l5)] [.int l4] (zk B im lm) := ze_if (ok := true) rfl 11 rfl rfl
theorem d_111_147 {B : zeB} {im : Nat → Nat → Int32} {lm : Nat → Nat → Int64} (o1 : Option Value) (o2 : Option Value) (o3 : Option Value) (o4 : Option Value) (l5 : Int32) (s0 : Int32) (c0 : zeInb (22 + l5) 360 = true) : zeRun 111 147 [some (.ref 170), o1, o2, o3, o4, some (.int l5)] [.int s0] (zk B im lm) = if 0 ≤ (im 171 (Int32.toNatClampNeg (22 + l5))) then zeRun 111 164 [some (.ref 170), o1, o2, o3, o4, some (.int l5)] [.int s0] (zk B im lm) else zeRun 111 160 [some (.ref 170), o1, o2, o3, o4, some (.int l5)] [.int s0] (zk B im lm) := ze_if (ok := (zeInb (22 + l5) 360 && true)) rfl 7 rfl (zeA2 c0 rfl)
theorem d_111_164 {B : zeB} {im : Nat → Nat → Int32} {lm : Nat → Nat → Int64} (o1 : Option Value) (o2 : Option Value) (o3 : Option Value) (o4 : Option Value) (l5 : Int32) (s0 : Int32)  : zeRun 111 164 [some (.ref 170), o1, o2, o3, o4, some (.int l5)] [.int s0] (zk B im lm) = zeRun 111 118 [some (.ref 170), o1, o2, o3, some (.int (s0 + 0)), some (.int (l5 + 1))] [] (zk B im lm) := ze_go (ok := true) rfl 5 rfl rfl
theorem d_111_160 {B : zeB} {im : Nat → Nat → Int32} {lm : Nat → Nat → Int64} (o1 : Option Value) (o2 : Option Value) (o3 : Option Value) (o4 : Option Value) (l5 : Int32) (s0 : Int32)  : zeRun 111 160 [some (.ref 170), o1, o2, o3, o4, some (.int l5)] [.int s0] (zk B im lm) = zeRun 111 118 [some (.ref 170), o1, o2, o3, some (.int (s0 + 1)), some (.int (l5 + 1))] [] (zk B im lm) := ze_go (ok := true) rfl 6 rfl rfl
theorem d_111_189 {B : zeB} {im : Nat → Nat → Int32} {lm : Nat → Nat → Int64} (o0 : Option Value) (o1 : Option Value) (o2 : Option Value) (o3 : Option Value) (l4 : Int32) (o5 : Option Value) (s1 : Int32) (s2 : Int32) (c0 : zeInb s1 360 = true) : zeRun 111 189 [o0, o1, o2, o3, some (.int l4), o5] [.int s2, .int s1, .ref 171] (zk B im lm) = some (some (.int l4), (zk B (zeU2 im 171 (Int32.toNatClampNeg s1) s2) lm)) := ze_ret (ok := (zeInb s1 360 && true)) rfl 3 rfl (zeA2 c0 rfl)
def J_111_189  (l4 : Int32) (s1 : Int32) (s2 : Int32) (im : zI) (lm : zJ) : zR :=
    zCk (zeInb s1 360) <|
    some (l4, (zeU2 im 171 (Int32.toNatClampNeg s1) s2), lm)
theorem J_111_189_ok {B : zeB} (l4 : Int32) (s1 : Int32) (s2 : Int32) (o0 : Option Value) (o1 : Option Value) (o2 : Option Value) (o3 : Option Value) (o5 : Option Value) (im : zI) (lm : zJ) : zL B 1 (J_111_189  l4 s1 s2 im lm) (zeRun 111 189 [o0, o1, o2, o3, some (.int l4), o5] [.int s2, .int s1, .ref 171] (zk B im lm)) := by
  unfold J_111_189
  refine zL_ck fun c1 => ?_
  exact zL_ret (d_111_189 _ _ _ _ _ _ _ _ c1)
def F_111_118  : Nat → Int32 → Int32 → zI → zJ → zR
  | 0, _, _, _, _ => none
  | n + 1, l4, l5, im, lm =>
    if (im 171 1) ≤ l5 then
      J_111_189   l4 0 (if l4 = 0 then 5 else 4) im lm
    else
      zCk (if (((im 171 13) >>> (l5 &&& 31)) &&& 1) = 1 then zeInb (22 + l5) 360 else true) <|
      F_111_118  n (if (((im 171 13) >>> (l5 &&& 31)) &&& 1) = 1 then if 0 ≤ (im 171 (Int32.toNatClampNeg (22 + l5))) then (l4 + 0) else (l4 + 1) else (l4 + 0)) (l5 + 1) im lm
theorem F_111_118_ok {B : zeB} : ∀ (n : Nat) (l4 : Int32) (l5 : Int32) (o1 : Option Value) (o2 : Option Value) (o3 : Option Value) (im : zI) (lm : zJ), zL B 1 (F_111_118  n l4 l5 im lm) (zeRun 111 118 [some (.ref 170), o1, o2, o3, some (.int l4), some (.int l5)] [] (zk B im lm)) := by
  intro n
  induction n with
  | zero => intros; exact zL_none
  | succ n ih =>
    intro l4 l5 o1 o2 o3 im lm
    unfold F_111_118
    refine zL_if (d_111_118 _ _ _ _ _) (fun h => ?_) (fun h => ?_)
    · skip
      refine zL_ifm (d_111_174 _ _ _ _ _) (fun h => ?_) (fun h => ?_)
      · repeat rw [if_pos h]
        refine zL_eq (d_111_184 _ _ _ _ _ _ _) ?_
        exact J_111_189_ok   _ _ _ _ _ _ _ _ _ _
      · repeat rw [if_neg h]
        refine zL_eq (d_111_188 _ _ _ _ _ _ _) ?_
        exact J_111_189_ok   _ _ _ _ _ _ _ _ _ _
    · skip
      refine zL_ifm (d_111_129 _ _ _ _ _) (fun h => ?_) (fun h => ?_)
      · repeat rw [if_pos h]
        refine zL_ck fun c1 => ?_
        refine zL_ifm (d_111_147 _ _ _ _ _ _ c1) (fun h => ?_) (fun h => ?_)
        · repeat rw [if_pos h]
          refine zL_eq (d_111_164 _ _ _ _ _ _) ?_
          exact ih _ _ _ _ _ _ _
        · repeat rw [if_neg h]
          refine zL_eq (d_111_160 _ _ _ _ _ _) ?_
          exact ih _ _ _ _ _ _ _
      · repeat rw [if_neg h]
        refine zL_eq (d_111_164 _ _ _ _ _ _) ?_
        refine zL_ckt ?_
        exact ih _ _ _ _ _ _ _
def J_111_87  (l1 : Int32) (l2 : Int32) (s0 : Int32) (im : zI) (lm : zJ) : zR :=
    if s0 ≤ 0 then
      zBd (m_25  im lm) fun _ im1 lm1 =>
      zCk (zeInb (22 + l1) 360) <|
      F_111_118  2000 0 0 (zeU2 im1 171 (Int32.toNatClampNeg (22 + l1)) l2) lm1
    else
      zBd (m_24 s0 im lm) fun v2 im2 lm2 =>
      some (v2, im2, lm2)
theorem J_111_87_ok {B : zeB} (l1 : Int32) (l2 : Int32) (s0 : Int32) (o3 : Option Value) (o4 : Option Value) (o5 : Option Value) (im : zI) (lm : zJ) : zL B 1 (J_111_87  l1 l2 s0 im lm) (zeRun 111 87 [some (.ref 170), some (.int l1), some (.int l2), o3, o4, o5] [.int s0] (zk B im lm)) := by
  unfold J_111_87
  refine zL_if (d_111_87 _ _ _ _ _ _) (fun h => ?_) (fun h => ?_)
  · skip
    refine zL_bdv (d_111_98 _ _ _ _ _) (m_25_ok _ _) fun _ im1 lm1 => ?_
    refine zL_ck fun c1 => ?_
    refine zL_eq (d_111_102 _ _ _ _ _ c1) ?_
    exact F_111_118_ok  _ _ _ _ _ _ _ _
  · skip
    refine zL_bd (d_111_92 _ _ _ _ _) (m_24_ok _ _ _) fun v2 im2 lm2 => ?_
    exact zL_ret (d_111_97 _ _ _ _ _ _ _)
def m_111 (l1 : Int32) (l2 : Int32) (im : zI) (lm : zJ) : zR :=
    if (if (if l1 < 0 then 0 else if ((im 171 1) - 1) < l1 then 0 else 1 : Int32) = 0 then 1 else 0 : Int32) = 0 then
      if (if l2 < 0 then 0 else if 100000 < l2 then 0 else 1 : Int32) = 0 then
        some ((-10000002), im, lm)
      else
        zCk (if (im 171 0) = 4 then if (((im 171 13) >>> (l1 &&& 31)) &&& 1) = 0 then true else zeInb (22 + l1) 360 else true) <|
        zCk (if (im 171 0) = 4 then if (((im 171 13) >>> (l1 &&& 31)) &&& 1) = 0 then true else if (im 171 (Int32.toNatClampNeg (22 + l1))) < 0 then zeInb (16 + l1) 360 else true else true) <|
        J_111_87   l1 l2 (if (im 171 0) = 4 then if (((im 171 13) >>> (l1 &&& 31)) &&& 1) = 0 then 6 else if (im 171 (Int32.toNatClampNeg (22 + l1))) < 0 then if l2 ≤ (im 171 (Int32.toNatClampNeg (16 + l1))) then 0 else 5 else 6 else 1) im lm
    else
      some ((-10000001), im, lm)
theorem m_111_ok {B : zeB} (l1 : Int32) (l2 : Int32) (im : zI) (lm : zJ) : zL B 1 (m_111 l1 l2 im lm) (zeRun 111 0 [some (.ref 170), some (.int l1), some (.int l2), none, none, none] [] (zk B im lm)) := by
  unfold m_111
  refine zL_bdp (e := (if (if l1 < 0 then 0 else if ((im 171 1) - 1) < l1 then 0 else 1 : Int32) = 0 then 1 else 0 : Int32)) (d_111_0 _ _ _ _ _) (m_44_ok _ _ _) ?_
  refine zL_if (d_111_5 _ _ _ _ _ _) (fun h => ?_) (fun h => ?_)
  · skip
    refine zL_bdp (e := (if l2 < 0 then 0 else if 100000 < l2 then 0 else 1 : Int32)) (d_111_11 _ _ _ _ _) (m_32_ok _ _ _ _ _) ?_
    refine zL_if (d_111_18 _ _ _ _ _ _) (fun h => ?_) (fun h => ?_)
    · skip
      exact zL_ret (d_111_21 _ _ _ _ _ _)
    · skip
      refine zL_ifm (d_111_24 _ _ _ _ _) (fun h => ?_) (fun h => ?_)
      · repeat rw [if_pos h]
        refine zL_ifm (d_111_38 _ _ _ _ _) (fun h => ?_) (fun h => ?_)
        · repeat rw [if_pos h]
          refine zL_eq (d_111_64 _ _ _ _ _) ?_
          refine zL_ckt ?_
          refine zL_ckt ?_
          exact J_111_87_ok   _ _ _ _ _ _ _ _
        · repeat rw [if_neg h]
          refine zL_ck fun c1 => ?_
          refine zL_ifm (d_111_52 _ _ _ _ _ c1) (fun h => ?_) (fun h => ?_)
          · repeat rw [if_pos h]
            refine zL_ck fun c2 => ?_
            refine zL_ifm (d_111_69 _ _ _ _ _ c2) (fun h => ?_) (fun h => ?_)
            · repeat rw [if_pos h]
              refine zL_eq (d_111_86 _ _ _ _ _) ?_
              exact J_111_87_ok   _ _ _ _ _ _ _ _
            · repeat rw [if_neg h]
              refine zL_eq (d_111_82 _ _ _ _ _) ?_
              exact J_111_87_ok   _ _ _ _ _ _ _ _
          · repeat rw [if_neg h]
            refine zL_eq (d_111_64 _ _ _ _ _) ?_
            refine zL_ckt ?_
            exact J_111_87_ok   _ _ _ _ _ _ _ _
      · repeat rw [if_neg h]
        refine zL_eq (d_111_34 _ _ _ _ _) ?_
        refine zL_ckt ?_
        refine zL_ckt ?_
        exact J_111_87_ok   _ _ _ _ _ _ _ _
  · skip
    exact zL_ret (d_111_8 _ _ _ _ _ _)
/-! X7_doubled -/
theorem d_112_0 {B : zeB} {im : Nat → Nat → Int32} {lm : Nat → Nat → Int64} (l0 : Int32)  : zeRun 112 0 [some (.int l0)] [] (zk B im lm) = if l0 ≤ 0 then zeRun 112 10 [some (.int l0)] [] (zk B im lm) else zeRun 112 4 [some (.int l0)] [] (zk B im lm) := ze_if (ok := true) rfl 2 rfl rfl
theorem d_112_10 {B : zeB} {im : Nat → Nat → Int32} {lm : Nat → Nat → Int64} (l0 : Int32)  : zeRun 112 10 [some (.int l0)] [] (zk B im lm) = some (some (.int l0), (zk B im lm)) := ze_ret (ok := true) rfl 2 rfl rfl
theorem d_112_4 {B : zeB} {im : Nat → Nat → Int32} {lm : Nat → Nat → Int64} (l0 : Int32)  : zeRun 112 4 [some (.int l0)] [] (zk B im lm) = some (some (.int (2 * l0)), (zk B im lm)) := ze_ret (ok := true) rfl 5 rfl rfl
def m_112 (l0 : Int32) (im : zI) (lm : zJ) : zR :=
    some (if l0 ≤ 0 then l0 else (2 * l0), im, lm)
theorem m_112_ok {B : zeB} (l0 : Int32) (im : zI) (lm : zJ) : zL B 1 (m_112 l0 im lm) (zeRun 112 0 [some (.int l0)] [] (zk B im lm)) := by
  unfold m_112
  refine zL_ifm (d_112_0 _) (fun h => ?_) (fun h => ?_)
  · repeat rw [if_pos h]
    exact zL_ret (d_112_10 _)
  · repeat rw [if_neg h]
    exact zL_ret (d_112_4 _)
