/-! pure: X7_doAnswer, X7_answer, X8_checkAnswer, X8_nextFinal, X8_enter, X8_answers -/
/-! X7_doAnswer -/
theorem d_85_0 {B : zeB} {im : Nat → Nat → Int32} {lm : Nat → Nat → Int64} (l1 : Int32) (o2 : Option Value)  : zeRun 85 0 [some (.ref 16), some (.int l1), o2] [] (zk B im lm) = if (im 17 0) = 1 then zeRun 85 39 [some (.ref 16), some (.int l1), o2] [] (zk B im lm) else zeRun 85 11 [some (.ref 16), some (.int l1), o2] [] (zk B im lm) := ze_if (ok := true) rfl 5 rfl rfl
theorem d_85_11 {B : zeB} {im : Nat → Nat → Int32} {lm : Nat → Nat → Int64} (l1 : Int32) (o2 : Option Value)  : zeRun 85 11 [some (.ref 16), some (.int l1), o2] [] (zk B im lm) = if (im 17 0) = 3 then zeRun 85 39 [some (.ref 16), some (.int l1), o2] [] (zk B im lm) else zeRun 85 22 [some (.ref 16), some (.int l1), o2] [] (zk B im lm) := ze_if (ok := true) rfl 5 rfl rfl
theorem d_85_22 {B : zeB} {im : Nat → Nat → Int32} {lm : Nat → Nat → Int64} (l1 : Int32) (o2 : Option Value)  : zeRun 85 22 [some (.ref 16), some (.int l1), o2] [] (zk B im lm) = if (im 17 0) = 5 then zeRun 85 39 [some (.ref 16), some (.int l1), o2] [] (zk B im lm) else zeRun 85 33 [some (.ref 16), some (.int l1), o2] [] (zk B im lm) := ze_if (ok := true) rfl 5 rfl rfl
theorem d_85_33 {B : zeB} {im : Nat → Nat → Int32} {lm : Nat → Nat → Int64} (o1 : Option Value) (o2 : Option Value)  : zeRun 85 33 [some (.ref 16), o1, o2] [] (zk B im lm) = zeBh 85 38 [some (.ref 16), o1, o2] [] (zeRun 17 0 [some (.ref 16), some (.int 1)] [] (zk B im lm)) := ze_call (ok := true) rfl 3 rfl rfl rfl
theorem d_85_38 {B : zeB} {im : Nat → Nat → Int32} {lm : Nat → Nat → Int64} (o0 : Option Value) (o1 : Option Value) (o2 : Option Value) (s0 : Int32)  : zeRun 85 38 [o0, o1, o2] [.int s0] (zk B im lm) = some (some (.int s0), (zk B im lm)) := ze_ret (ok := true) rfl 1 rfl rfl
theorem d_85_39 {B : zeB} {im : Nat → Nat → Int32} {lm : Nat → Nat → Int64} (l1 : Int32) (o2 : Option Value)  : zeRun 85 39 [some (.ref 16), some (.int l1), o2] [] (zk B im lm) = zeBh 85 43 [some (.ref 16), some (.int l1), o2] [] (zeRun 8 0 [some (.ref 16)] [] (zk B im lm)) := ze_call (ok := true) rfl 2 rfl rfl rfl
theorem d_85_43 {B : zeB} {im : Nat → Nat → Int32} {lm : Nat → Nat → Int64} (l1 : Int32) (o2 : Option Value) (s0 : Int32)  : zeRun 85 43 [some (.ref 16), some (.int l1), o2] [.int s0] (zk B im lm) = zeBh 85 49 [some (.ref 16), some (.int l1), some (.int s0)] [] (zeRun 38 0 [some (.ref 16), some (.int s0)] [] (zk B im lm)) := ze_call (ok := true) rfl 4 rfl rfl rfl
theorem d_85_49 {B : zeB} {im : Nat → Nat → Int32} {lm : Nat → Nat → Int64} (l1 : Int32) (l2 : Int32) (s0 : Int32)  : zeRun 85 49 [some (.ref 16), some (.int l1), some (.int l2)] [.int s0] (zk B im lm) = if s0 = 0 then zeRun 85 52 [some (.ref 16), some (.int l1), some (.int l2)] [] (zk B im lm) else zeRun 85 58 [some (.ref 16), some (.int l1), some (.int l2)] [] (zk B im lm) := ze_if (ok := true) rfl 1 rfl rfl
theorem d_85_52 {B : zeB} {im : Nat → Nat → Int32} {lm : Nat → Nat → Int64} (o1 : Option Value) (o2 : Option Value)  : zeRun 85 52 [some (.ref 16), o1, o2] [] (zk B im lm) = zeBh 85 57 [some (.ref 16), o1, o2] [] (zeRun 17 0 [some (.ref 16), some (.int 4)] [] (zk B im lm)) := ze_call (ok := true) rfl 3 rfl rfl rfl
theorem d_85_57 {B : zeB} {im : Nat → Nat → Int32} {lm : Nat → Nat → Int64} (o0 : Option Value) (o1 : Option Value) (o2 : Option Value) (s0 : Int32)  : zeRun 85 57 [o0, o1, o2] [.int s0] (zk B im lm) = some (some (.int s0), (zk B im lm)) := ze_ret (ok := true) rfl 1 rfl rfl
theorem d_85_58 {B : zeB} {im : Nat → Nat → Int32} {lm : Nat → Nat → Int64} (l1 : Int32) (l2 : Int32)  : zeRun 85 58 [some (.ref 16), some (.int l1), some (.int l2)] [] (zk B im lm) = zeBh 85 68 [some (.ref 16), some (.int l1), some (.int l2)] [] (zeRun 70 0 [some (.ref 26)] [] (zk B im lm)) := ze_call (ok := true) rfl 4 rfl rfl rfl
theorem d_85_68 {B : zeB} {im : Nat → Nat → Int32} {lm : Nat → Nat → Int64} (l1 : Int32) (l2 : Int32) (s0 : Int32)  : zeRun 85 68 [some (.ref 16), some (.int l1), some (.int l2)] [.int s0] (zk B im lm) = if s0 = 0 then zeRun 85 78 [some (.ref 16), some (.int l1), some (.int l2)] [] (zk B im lm) else zeRun 85 71 [some (.ref 16), some (.int l1), some (.int l2)] [] (zk B im lm) := ze_if (ok := true) rfl 1 rfl rfl
theorem d_85_78 {B : zeB} {im : Nat → Nat → Int32} {lm : Nat → Nat → Int64} (l1 : Int32) (l2 : Int32)  : zeRun 85 78 [some (.ref 16), some (.int l1), some (.int l2)] [] (zk B im lm) = if (im 17 0) = 1 then zeRun 85 89 [some (.ref 16), some (.int l1), some (.int l2)] [] (zk B im lm) else zeRun 85 98 [some (.ref 16), some (.int l1), some (.int l2)] [] (zk B im lm) := ze_if (ok := true) rfl 5 rfl rfl
theorem d_85_89 {B : zeB} {im : Nat → Nat → Int32} {lm : Nat → Nat → Int64} (l1 : Int32) (l2 : Int32)  : zeRun 85 89 [some (.ref 16), some (.int l1), some (.int l2)] [] (zk B im lm) = zeBh 85 95 [some (.ref 16), some (.int l1), some (.int l2)] [] (zeRun 78 0 [some (.ref 16), some (.int l2), some (.int l1), none, none] [] (zk B im lm)) := ze_call (ok := true) rfl 4 rfl rfl rfl
theorem d_85_95 {B : zeB} {im : Nat → Nat → Int32} {lm : Nat → Nat → Int64} (o1 : Option Value) (l2 : Int32)  : zeRun 85 95 [some (.ref 16), o1, some (.int l2)] [] (zk B im lm) = zeRun 85 167 [some (.ref 16), o1, some (.int l2)] [] (zk B im lm) := ze_go (ok := true) rfl 1 rfl rfl
theorem d_85_98 {B : zeB} {im : Nat → Nat → Int32} {lm : Nat → Nat → Int64} (l1 : Int32) (l2 : Int32)  : zeRun 85 98 [some (.ref 16), some (.int l1), some (.int l2)] [] (zk B im lm) = if (im 17 0) = 3 then zeRun 85 109 [some (.ref 16), some (.int l1), some (.int l2)] [] (zk B im lm) else zeRun 85 161 [some (.ref 16), some (.int l1), some (.int l2)] [] (zk B im lm) := ze_if (ok := true) rfl 5 rfl rfl
theorem d_85_109 {B : zeB} {im : Nat → Nat → Int32} {lm : Nat → Nat → Int64} (l1 : Int32) (l2 : Int32)  : zeRun 85 109 [some (.ref 16), some (.int l1), some (.int l2)] [] (zk B im lm) = if l1 = 0 then zeRun 85 146 [some (.ref 16), some (.int l1), some (.int l2)] [.int (im 19 3), .int (im 19 0), .int 2, .int l2, .ref 26] (zk B im lm) else zeRun 85 142 [some (.ref 16), some (.int l1), some (.int l2)] [.int (im 19 3), .int (im 19 0), .int 2, .int l2, .ref 26] (zk B im lm) := ze_if (ok := true) rfl 15 rfl rfl
theorem d_85_146 {B : zeB} {im : Nat → Nat → Int32} {lm : Nat → Nat → Int64} (o1 : Option Value) (l2 : Int32) (s1 : Int32) (s2 : Int32) (s3 : Int32) (s4 : Int32)  : zeRun 85 146 [some (.ref 16), o1, some (.int l2)] [.int s4, .int s3, .int s2, .int s1, .ref 26] (zk B im lm) = zeRun 85 147 [some (.ref 16), o1, some (.int l2)] [.int 0, .int s4, .int s3, .int s2, .int s1, .ref 26] (zk B im lm) := ze_go (ok := true) rfl 1 rfl rfl
theorem d_85_142 {B : zeB} {im : Nat → Nat → Int32} {lm : Nat → Nat → Int64} (o1 : Option Value) (l2 : Int32) (s1 : Int32) (s2 : Int32) (s3 : Int32) (s4 : Int32)  : zeRun 85 142 [some (.ref 16), o1, some (.int l2)] [.int s4, .int s3, .int s2, .int s1, .ref 26] (zk B im lm) = zeRun 85 147 [some (.ref 16), o1, some (.int l2)] [.int 1, .int s4, .int s3, .int s2, .int s1, .ref 26] (zk B im lm) := ze_go (ok := true) rfl 2 rfl rfl
theorem d_85_161 {B : zeB} {im : Nat → Nat → Int32} {lm : Nat → Nat → Int64} (l1 : Int32) (l2 : Int32)  : zeRun 85 161 [some (.ref 16), some (.int l1), some (.int l2)] [] (zk B im lm) = zeBh 85 167 [some (.ref 16), some (.int l1), some (.int l2)] [] (zeRun 84 0 [some (.ref 16), some (.int l2), some (.int l1)] [] (zk B im lm)) := ze_call (ok := true) rfl 4 rfl rfl rfl
theorem d_85_71 {B : zeB} {im : Nat → Nat → Int32} {lm : Nat → Nat → Int64} (o1 : Option Value) (o2 : Option Value)  : zeRun 85 71 [some (.ref 16), o1, o2] [] (zk B im lm) = zeBh 85 77 [some (.ref 16), o1, o2] [] (zeRun 17 0 [some (.ref 16), some (.int 7)] [] (zk B im lm)) := ze_call (ok := true) rfl 3 rfl rfl rfl
theorem d_85_77 {B : zeB} {im : Nat → Nat → Int32} {lm : Nat → Nat → Int64} (o0 : Option Value) (o1 : Option Value) (o2 : Option Value) (s0 : Int32)  : zeRun 85 77 [o0, o1, o2] [.int s0] (zk B im lm) = some (some (.int s0), (zk B im lm)) := ze_ret (ok := true) rfl 1 rfl rfl
theorem d_85_147 {B : zeB} {im : Nat → Nat → Int32} {lm : Nat → Nat → Int64} (o1 : Option Value) (l2 : Int32) (s1 : Int32) (s2 : Int32) (s3 : Int32) (s4 : Int32) (s5 : Int32)  : zeRun 85 147 [some (.ref 16), o1, some (.int l2)] [.int s5, .int s4, .int s3, .int s2, .int s1, .ref 26] (zk B im lm) = zeBh 85 150 [some (.ref 16), o1, some (.int l2)] [] (zeRun 71 0 [some (.ref 26), some (.int s1), some (.int s2), some (.int s3), some (.int s4), some (.int s5)] [] (zk B im lm)) := ze_call (ok := true) rfl 1 rfl rfl rfl
theorem d_85_150 {B : zeB} {im : Nat → Nat → Int32} {lm : Nat → Nat → Int64} (o1 : Option Value) (l2 : Int32)  : zeRun 85 150 [some (.ref 16), o1, some (.int l2)] [] (zk B im lm) = zeRun 85 167 [some (.ref 16), o1, some (.int l2)] [] (zk B (zeU2 im 17 0 0) lm) := ze_go (ok := true) rfl 5 rfl rfl
theorem d_85_167 {B : zeB} {im : Nat → Nat → Int32} {lm : Nat → Nat → Int64} (o1 : Option Value) (l2 : Int32)  : zeRun 85 167 [some (.ref 16), o1, some (.int l2)] [] (zk B im lm) = zeBh 85 172 [some (.ref 16), o1, some (.int l2)] [] (zeRun 77 0 [some (.ref 16), some (.int l2)] [] (zk B im lm)) := ze_call (ok := true) rfl 3 rfl rfl rfl
theorem d_85_172 {B : zeB} {im : Nat → Nat → Int32} {lm : Nat → Nat → Int64} (o0 : Option Value) (o1 : Option Value) (o2 : Option Value) (s0 : Int32)  : zeRun 85 172 [o0, o1, o2] [.int s0] (zk B im lm) = some (some (.int s0), (zk B im lm)) := ze_ret (ok := true) rfl 1 rfl rfl
def J_85_167  (l2 : Int32) (im : zI) (lm : zJ) : zR :=
    zBd (m_77 l2 im lm) fun v1 im1 lm1 =>
    some (v1, im1, lm1)
theorem J_85_167_ok {B : zeB} (l2 : Int32) (o1 : Option Value) (im : zI) (lm : zJ) : zL B 1 (J_85_167  l2 im lm) (zeRun 85 167 [some (.ref 16), o1, some (.int l2)] [] (zk B im lm)) := by
  unfold J_85_167
  refine zL_bd (d_85_167 _ _) (m_77_ok _ _ _) fun v1 im1 lm1 => ?_
  exact zL_ret (d_85_172 _ _ _ _)
def J_85_147  (l2 : Int32) (s1 : Int32) (s2 : Int32) (s3 : Int32) (s4 : Int32) (s5 : Int32) (im : zI) (lm : zJ) : zR :=
    zBd (m_71 s1 s2 s3 s4 s5 im lm) fun _ im1 lm1 =>
    J_85_167   l2 (zeU2 im1 17 0 0) lm1
theorem J_85_147_ok {B : zeB} (l2 : Int32) (s1 : Int32) (s2 : Int32) (s3 : Int32) (s4 : Int32) (s5 : Int32) (o1 : Option Value) (im : zI) (lm : zJ) : zL B 1 (J_85_147  l2 s1 s2 s3 s4 s5 im lm) (zeRun 85 147 [some (.ref 16), o1, some (.int l2)] [.int s5, .int s4, .int s3, .int s2, .int s1, .ref 26] (zk B im lm)) := by
  unfold J_85_147
  refine zL_bdv (d_85_147 _ _ _ _ _ _ _) (m_71_ok _ _ _ _ _ _ _) fun _ im1 lm1 => ?_
  refine zL_eq (d_85_150 _ _) ?_
  exact J_85_167_ok   _ _ _ _
def J_85_39  (l1 : Int32) (im : zI) (lm : zJ) : zR :=
    zBd (m_8  im lm) fun v1 im1 lm1 =>
    if (if v1 < 0 then 0 else if (im1 17 1) ≤ v1 then 0 else 1 : Int32) = 0 then
      zBd (m_17 4 im1 lm1) fun v3 im3 lm3 =>
      some (v3, im3, lm3)
    else
      if (if (im1 26 0) < 60 then 0 else 1 : Int32) = 0 then
        if (im1 17 0) = 1 then
          zBd (m_78 v1 l1 im1 lm1) fun _ im5 lm5 =>
          J_85_167   v1 im5 lm5
        else
          if (im1 17 0) = 3 then
            J_85_147   v1 v1 2 (im1 19 0) (im1 19 3) (if l1 = 0 then 0 else 1) im1 lm1
          else
            zBd (m_84 v1 l1 im1 lm1) fun _ im6 lm6 =>
            J_85_167   v1 im6 lm6
      else
        zBd (m_17 7 im1 lm1) fun v7 im7 lm7 =>
        some (v7, im7, lm7)
theorem J_85_39_ok {B : zeB} (l1 : Int32) (o2 : Option Value) (im : zI) (lm : zJ) : zL B 1 (J_85_39  l1 im lm) (zeRun 85 39 [some (.ref 16), some (.int l1), o2] [] (zk B im lm)) := by
  unfold J_85_39
  refine zL_bd (d_85_39 _ _) (m_8_ok _ _) fun v1 im1 lm1 => ?_
  refine zL_bdp (e := (if v1 < 0 then 0 else if (im1 17 1) ≤ v1 then 0 else 1 : Int32)) (d_85_43 _ _ _) (m_38_ok _ _ _) ?_
  refine zL_if (d_85_49 _ _ _) (fun h => ?_) (fun h => ?_)
  · skip
    refine zL_bd (d_85_52 _ _) (m_17_ok _ _ _) fun v3 im3 lm3 => ?_
    exact zL_ret (d_85_57 _ _ _ _)
  · skip
    refine zL_bdp (e := (if (im1 26 0) < 60 then 0 else 1 : Int32)) (d_85_58 _ _) (m_70_ok _ _) ?_
    refine zL_if (d_85_68 _ _ _) (fun h => ?_) (fun h => ?_)
    · skip
      refine zL_if (d_85_78 _ _) (fun h => ?_) (fun h => ?_)
      · skip
        refine zL_bdv (d_85_89 _ _) (m_78_ok _ _ _ _) fun _ im5 lm5 => ?_
        refine zL_eq (d_85_95 _ _) ?_
        exact J_85_167_ok   _ _ _ _
      · skip
        refine zL_if (d_85_98 _ _) (fun h => ?_) (fun h => ?_)
        · skip
          refine zL_ifm (d_85_109 _ _) (fun h => ?_) (fun h => ?_)
          · repeat rw [if_pos h]
            refine zL_eq (d_85_146 _ _ _ _ _ _) ?_
            exact J_85_147_ok   _ _ _ _ _ _ _ _ _
          · repeat rw [if_neg h]
            refine zL_eq (d_85_142 _ _ _ _ _ _) ?_
            exact J_85_147_ok   _ _ _ _ _ _ _ _ _
        · skip
          refine zL_bdv (d_85_161 _ _) (m_84_ok _ _ _ _) fun _ im6 lm6 => ?_
          exact J_85_167_ok   _ _ _ _
    · skip
      refine zL_bd (d_85_71 _ _) (m_17_ok _ _ _) fun v7 im7 lm7 => ?_
      exact zL_ret (d_85_77 _ _ _ _)
def m_85 (l1 : Int32) (im : zI) (lm : zJ) : zR :=
    if (im 17 0) = 1 then
      J_85_39   l1 im lm
    else
      if (im 17 0) = 3 then
        J_85_39   l1 im lm
      else
        if (im 17 0) = 5 then
          J_85_39   l1 im lm
        else
          zBd (m_17 1 im lm) fun v1 im1 lm1 =>
          some (v1, im1, lm1)
theorem m_85_ok {B : zeB} (l1 : Int32) (im : zI) (lm : zJ) : zL B 1 (m_85 l1 im lm) (zeRun 85 0 [some (.ref 16), some (.int l1), none] [] (zk B im lm)) := by
  unfold m_85
  refine zL_if (d_85_0 _ _) (fun h => ?_) (fun h => ?_)
  · skip
    exact J_85_39_ok   _ _ _ _
  · skip
    refine zL_if (d_85_11 _ _) (fun h => ?_) (fun h => ?_)
    · skip
      exact J_85_39_ok   _ _ _ _
    · skip
      refine zL_if (d_85_22 _ _) (fun h => ?_) (fun h => ?_)
      · skip
        exact J_85_39_ok   _ _ _ _
      · skip
        refine zL_bd (d_85_33 _ _) (m_17_ok _ _ _) fun v1 im1 lm1 => ?_
        exact zL_ret (d_85_38 _ _ _ _)
/-! X7_answer -/
theorem d_86_0 {B : zeB} {im : Nat → Nat → Int32} {lm : Nat → Nat → Int64} (l1 : Int32)  : zeRun 86 0 [some (.ref 16), some (.int l1)] [] (zk B im lm) = zeBh 86 11 [some (.ref 16), some (.int l1)] [] (zeRun 15 0 [some (.ref 42), some (.ref 17)] [] (zk B im lm)) := ze_call (ok := true) rfl 5 rfl rfl rfl
theorem d_86_11 {B : zeB} {im : Nat → Nat → Int32} {lm : Nat → Nat → Int64} (l1 : Int32)  : zeRun 86 11 [some (.ref 16), some (.int l1)] [] (zk B im lm) = zeBh 86 17 [some (.ref 16), some (.int l1)] [.ref 16] (zeRun 85 0 [some (.ref 16), some (.int l1), none] [] (zk B im lm)) := ze_call (ok := true) rfl 4 rfl rfl rfl
theorem d_86_17 {B : zeB} {im : Nat → Nat → Int32} {lm : Nat → Nat → Int64} (o0 : Option Value) (o1 : Option Value) (s1 : Int32)  : zeRun 86 17 [o0, o1] [.int s1, .ref 16] (zk B im lm) = zeBh 86 20 [o0, o1] [] (zeRun 21 0 [some (.ref 16), some (.int s1)] [] (zk B im lm)) := ze_call (ok := true) rfl 1 rfl rfl rfl
theorem d_86_20 {B : zeB} {im : Nat → Nat → Int32} {lm : Nat → Nat → Int64} (o0 : Option Value) (o1 : Option Value) (s0 : Int32)  : zeRun 86 20 [o0, o1] [.int s0] (zk B im lm) = some (some (.int s0), (zk B im lm)) := ze_ret (ok := true) rfl 1 rfl rfl
def m_86 (l1 : Int32) (im : zI) (lm : zJ) : zR :=
    zBd (m_15  im lm) fun _ im1 lm1 =>
    zBd (m_85 l1 im1 lm1) fun v2 im2 lm2 =>
    zBd (m_21 v2 im2 lm2) fun v3 im3 lm3 =>
    some (v3, im3, lm3)
theorem m_86_ok {B : zeB} (l1 : Int32) (im : zI) (lm : zJ) : zL B 1 (m_86 l1 im lm) (zeRun 86 0 [some (.ref 16), some (.int l1)] [] (zk B im lm)) := by
  unfold m_86
  refine zL_bdv (d_86_0 _) (m_15_ok _ _) fun _ im1 lm1 => ?_
  refine zL_bd (d_86_11 _) (m_85_ok _ _ _) fun v2 im2 lm2 => ?_
  refine zL_bd (d_86_17 _ _ _) (m_21_ok _ _ _) fun v3 im3 lm3 => ?_
  exact zL_ret (d_86_20 _ _ _)
/-! X8_checkAnswer -/
theorem d_87_0 {B : zeB} {im : Nat → Nat → Int32} {lm : Nat → Nat → Int64} (o1 : Option Value)  : zeRun 87 0 [some (.ref 170), o1] [] (zk B im lm) = if (im 171 0) = 1 then zeRun 87 28 [some (.ref 170), some (.int (im 171 0))] [] (zk B im lm) else zeRun 87 12 [some (.ref 170), some (.int (im 171 0))] [] (zk B im lm) := ze_if (ok := true) rfl 8 rfl rfl
theorem d_87_12 {B : zeB} {im : Nat → Nat → Int32} {lm : Nat → Nat → Int64} (l1 : Int32)  : zeRun 87 12 [some (.ref 170), some (.int l1)] [] (zk B im lm) = if l1 = 3 then zeRun 87 28 [some (.ref 170), some (.int l1)] [] (zk B im lm) else zeRun 87 17 [some (.ref 170), some (.int l1)] [] (zk B im lm) := ze_if (ok := true) rfl 3 rfl rfl
theorem d_87_17 {B : zeB} {im : Nat → Nat → Int32} {lm : Nat → Nat → Int64} (l1 : Int32)  : zeRun 87 17 [some (.ref 170), some (.int l1)] [] (zk B im lm) = if l1 = 5 then zeRun 87 28 [some (.ref 170), some (.int l1)] [] (zk B im lm) else zeRun 87 22 [some (.ref 170), some (.int l1)] [] (zk B im lm) := ze_if (ok := true) rfl 3 rfl rfl
theorem d_87_22 {B : zeB} {im : Nat → Nat → Int32} {lm : Nat → Nat → Int64} (o1 : Option Value)  : zeRun 87 22 [some (.ref 170), o1] [] (zk B im lm) = zeBh 87 27 [some (.ref 170), o1] [] (zeRun 24 0 [some (.ref 170), some (.int 1)] [] (zk B im lm)) := ze_call (ok := true) rfl 3 rfl rfl rfl
theorem d_87_27 {B : zeB} {im : Nat → Nat → Int32} {lm : Nat → Nat → Int64} (o0 : Option Value) (o1 : Option Value) (s0 : Int32)  : zeRun 87 27 [o0, o1] [.int s0] (zk B im lm) = some (some (.int s0), (zk B im lm)) := ze_ret (ok := true) rfl 1 rfl rfl
theorem d_87_28 {B : zeB} {im : Nat → Nat → Int32} {lm : Nat → Nat → Int64} (l1 : Int32)  : zeRun 87 28 [some (.ref 170), some (.int l1)] [] (zk B im lm) = zeBh 87 32 [some (.ref 170), some (.int l1)] [] (zeRun 47 0 [some (.ref 170), none, none, none, none, none, none] [] (zk B im lm)) := ze_call (ok := true) rfl 2 rfl rfl rfl
theorem d_87_32 {B : zeB} {im : Nat → Nat → Int32} {lm : Nat → Nat → Int64} (l1 : Int32)  : zeRun 87 32 [some (.ref 170), some (.int l1)] [] (zk B im lm) = if l1 = 1 then zeRun 87 37 [some (.ref 170), some (.int l1)] [] (zk B im lm) else zeRun 87 50 [some (.ref 170), some (.int l1)] [] (zk B im lm) := ze_if (ok := true) rfl 3 rfl rfl
theorem d_87_37 {B : zeB} {im : Nat → Nat → Int32} {lm : Nat → Nat → Int64} (o1 : Option Value)  : zeRun 87 37 [some (.ref 170), o1] [] (zk B im lm) = zeBh 87 41 [some (.ref 170), o1] [] (zeRun 64 0 [some (.ref 170), none, none, none, none] [] (zk B im lm)) := ze_call (ok := true) rfl 2 rfl rfl rfl
theorem d_87_41 {B : zeB} {im : Nat → Nat → Int32} {lm : Nat → Nat → Int64} (o1 : Option Value) (s0 : Int32)  : zeRun 87 41 [some (.ref 170), o1] [.int s0] (zk B im lm) = if s0 = 0 then zeRun 87 44 [some (.ref 170), o1] [] (zk B im lm) else zeRun 87 50 [some (.ref 170), o1] [] (zk B im lm) := ze_if (ok := true) rfl 1 rfl rfl
theorem d_87_44 {B : zeB} {im : Nat → Nat → Int32} {lm : Nat → Nat → Int64} (o1 : Option Value)  : zeRun 87 44 [some (.ref 170), o1] [] (zk B im lm) = zeBh 87 49 [some (.ref 170), o1] [] (zeRun 24 0 [some (.ref 170), some (.int 4)] [] (zk B im lm)) := ze_call (ok := true) rfl 3 rfl rfl rfl
theorem d_87_49 {B : zeB} {im : Nat → Nat → Int32} {lm : Nat → Nat → Int64} (o0 : Option Value) (o1 : Option Value) (s0 : Int32)  : zeRun 87 49 [o0, o1] [.int s0] (zk B im lm) = some (some (.int s0), (zk B im lm)) := ze_ret (ok := true) rfl 1 rfl rfl
theorem d_87_50 {B : zeB} {im : Nat → Nat → Int32} {lm : Nat → Nat → Int64} (o1 : Option Value)  : zeRun 87 50 [some (.ref 170), o1] [] (zk B im lm) = if (im 171 5) = 60 then zeRun 87 61 [some (.ref 170), o1] [] (zk B im lm) else zeRun 87 70 [some (.ref 170), o1] [] (zk B im lm) := ze_if (ok := true) rfl 6 rfl rfl
theorem d_87_61 {B : zeB} {im : Nat → Nat → Int32} {lm : Nat → Nat → Int64} (o1 : Option Value)  : zeRun 87 61 [some (.ref 170), o1] [] (zk B im lm) = zeBh 87 67 [some (.ref 170), o1] [] (zeRun 24 0 [some (.ref 170), some (.int 7)] [] (zk B im lm)) := ze_call (ok := true) rfl 3 rfl rfl rfl
theorem d_87_67 {B : zeB} {im : Nat → Nat → Int32} {lm : Nat → Nat → Int64} (o0 : Option Value) (o1 : Option Value) (s0 : Int32)  : zeRun 87 67 [o0, o1] [.int s0] (zk B im lm) = some (some (.int s0), (zk B im lm)) := ze_ret (ok := true) rfl 2 rfl rfl
theorem d_87_70 {B : zeB} {im : Nat → Nat → Int32} {lm : Nat → Nat → Int64} (o0 : Option Value) (o1 : Option Value)  : zeRun 87 70 [o0, o1] [] (zk B im lm) = some (some (.int 0), (zk B im lm)) := ze_ret (ok := true) rfl 2 rfl rfl
def J_87_50   (im : zI) (lm : zJ) : zR :=
    if (im 171 5) = 60 then
      zBd (m_24 7 im lm) fun v1 im1 lm1 =>
      some (v1, im1, lm1)
    else
      some (0, im, lm)
theorem J_87_50_ok {B : zeB}  (o1 : Option Value) (im : zI) (lm : zJ) : zL B 1 (J_87_50   im lm) (zeRun 87 50 [some (.ref 170), o1] [] (zk B im lm)) := by
  unfold J_87_50
  refine zL_if (d_87_50 _) (fun h => ?_) (fun h => ?_)
  · skip
    refine zL_bd (d_87_61 _) (m_24_ok _ _ _) fun v1 im1 lm1 => ?_
    exact zL_ret (d_87_67 _ _ _)
  · skip
    exact zL_ret (d_87_70 _ _)
def J_87_28  (l1 : Int32) (im : zI) (lm : zJ) : zR :=
    zBd (m_47  im lm) fun _ im1 lm1 =>
    if l1 = 1 then
      zBd (m_64  im1 lm1) fun v2 im2 lm2 =>
      if v2 = 0 then
        zBd (m_24 4 im2 lm2) fun v3 im3 lm3 =>
        some (v3, im3, lm3)
      else
        J_87_50    im2 lm2
    else
      J_87_50    im1 lm1
theorem J_87_28_ok {B : zeB} (l1 : Int32)  (im : zI) (lm : zJ) : zL B 1 (J_87_28  l1 im lm) (zeRun 87 28 [some (.ref 170), some (.int l1)] [] (zk B im lm)) := by
  unfold J_87_28
  refine zL_bdv (d_87_28 _) (m_47_ok _ _) fun _ im1 lm1 => ?_
  refine zL_if (d_87_32 _) (fun h => ?_) (fun h => ?_)
  · skip
    refine zL_bd (d_87_37 _) (m_64_ok _ _) fun v2 im2 lm2 => ?_
    refine zL_if (d_87_41 _ _) (fun h => ?_) (fun h => ?_)
    · skip
      refine zL_bd (d_87_44 _) (m_24_ok _ _ _) fun v3 im3 lm3 => ?_
      exact zL_ret (d_87_49 _ _ _)
    · skip
      exact J_87_50_ok   _ _ _
  · skip
    exact J_87_50_ok   _ _ _
def m_87  (im : zI) (lm : zJ) : zR :=
    if (im 171 0) = 1 then
      J_87_28   (im 171 0) im lm
    else
      if (im 171 0) = 3 then
        J_87_28   (im 171 0) im lm
      else
        if (im 171 0) = 5 then
          J_87_28   (im 171 0) im lm
        else
          zBd (m_24 1 im lm) fun v1 im1 lm1 =>
          some (v1, im1, lm1)
theorem m_87_ok {B : zeB}  (im : zI) (lm : zJ) : zL B 1 (m_87  im lm) (zeRun 87 0 [some (.ref 170), none] [] (zk B im lm)) := by
  unfold m_87
  refine zL_if (d_87_0 _) (fun h => ?_) (fun h => ?_)
  · skip
    exact J_87_28_ok   _ _ _
  · skip
    refine zL_if (d_87_12 _) (fun h => ?_) (fun h => ?_)
    · skip
      exact J_87_28_ok   _ _ _
    · skip
      refine zL_if (d_87_17 _) (fun h => ?_) (fun h => ?_)
      · skip
        exact J_87_28_ok   _ _ _
      · skip
        refine zL_bd (d_87_22 _) (m_24_ok _ _ _) fun v1 im1 lm1 => ?_
        exact zL_ret (d_87_27 _ _ _)
/-! X8_nextFinal -/
theorem d_88_0 {B : zeB} {im : Nat → Nat → Int32} {lm : Nat → Nat → Int64} (o1 : Option Value) (o2 : Option Value) (o3 : Option Value)  : zeRun 88 0 [some (.ref 170), o1, o2, o3] [] (zk B im lm) = zeRun 88 4 [some (.ref 170), some (.int (-1)), some (.int 0), o3] [] (zk B im lm) := ze_go (ok := true) rfl 4 rfl rfl
theorem d_88_4 {B : zeB} {im : Nat → Nat → Int32} {lm : Nat → Nat → Int64} (l1 : Int32) (l2 : Int32) (o3 : Option Value)  : zeRun 88 4 [some (.ref 170), some (.int l1), some (.int l2), o3] [] (zk B im lm) = if (im 171 1) ≤ l2 then zeRun 88 90 [some (.ref 170), some (.int l1), some (.int l2), o3] [] (zk B im lm) else zeRun 88 14 [some (.ref 170), some (.int l1), some (.int l2), o3] [] (zk B im lm) := ze_if (ok := true) rfl 6 rfl rfl
theorem d_88_90 {B : zeB} {im : Nat → Nat → Int32} {lm : Nat → Nat → Int64} (o0 : Option Value) (l1 : Int32) (o2 : Option Value) (o3 : Option Value)  : zeRun 88 90 [o0, some (.int l1), o2, o3] [] (zk B im lm) = some (some (.int l1), (zk B im lm)) := ze_ret (ok := true) rfl 2 rfl rfl
theorem d_88_14 {B : zeB} {im : Nat → Nat → Int32} {lm : Nat → Nat → Int64} (l1 : Int32) (l2 : Int32) (o3 : Option Value)  : zeRun 88 14 [some (.ref 170), some (.int l1), some (.int l2), o3] [] (zk B im lm) = if (((im 171 13) >>> (l2 &&& 31)) &&& 1) = 1 then zeRun 88 29 [some (.ref 170), some (.int l1), some (.int l2), o3] [] (zk B im lm) else zeRun 88 47 [some (.ref 170), some (.int l1), some (.int l2), o3] [] (zk B im lm) := ze_if (ok := true) rfl 10 rfl rfl
theorem d_88_29 {B : zeB} {im : Nat → Nat → Int32} {lm : Nat → Nat → Int64} (l1 : Int32) (l2 : Int32) (o3 : Option Value)  : zeRun 88 29 [some (.ref 170), some (.int l1), some (.int l2), o3] [] (zk B im lm) = if (((im 171 14) >>> (l2 &&& 31)) &&& 1) = 0 then zeRun 88 43 [some (.ref 170), some (.int l1), some (.int l2), o3] [] (zk B im lm) else zeRun 88 47 [some (.ref 170), some (.int l1), some (.int l2), o3] [] (zk B im lm) := ze_if (ok := true) rfl 9 rfl rfl
theorem d_88_43 {B : zeB} {im : Nat → Nat → Int32} {lm : Nat → Nat → Int64} (l1 : Int32) (l2 : Int32) (o3 : Option Value)  : zeRun 88 43 [some (.ref 170), some (.int l1), some (.int l2), o3] [] (zk B im lm) = zeRun 88 48 [some (.ref 170), some (.int l1), some (.int l2), o3] [.int 1] (zk B im lm) := ze_go (ok := true) rfl 2 rfl rfl
theorem d_88_47 {B : zeB} {im : Nat → Nat → Int32} {lm : Nat → Nat → Int64} (l1 : Int32) (l2 : Int32) (o3 : Option Value)  : zeRun 88 47 [some (.ref 170), some (.int l1), some (.int l2), o3] [] (zk B im lm) = zeRun 88 48 [some (.ref 170), some (.int l1), some (.int l2), o3] [.int 0] (zk B im lm) := ze_go (ok := true) rfl 1 rfl rfl
theorem d_88_48 {B : zeB} {im : Nat → Nat → Int32} {lm : Nat → Nat → Int64} (l1 : Int32) (l2 : Int32) (o3 : Option Value) (s0 : Int32)  : zeRun 88 48 [some (.ref 170), some (.int l1), some (.int l2), o3] [.int s0] (zk B im lm) = if s0 = 0 then zeRun 88 82 [some (.ref 170), some (.int l1), some (.int l2), some (.int s0)] [] (zk B im lm) else zeRun 88 53 [some (.ref 170), some (.int l1), some (.int l2), some (.int s0)] [] (zk B im lm) := ze_if (ok := true) rfl 3 rfl rfl
theorem d_88_82 {B : zeB} {im : Nat → Nat → Int32} {lm : Nat → Nat → Int64} (l1 : Int32) (l2 : Int32) (o3 : Option Value)  : zeRun 88 82 [some (.ref 170), some (.int l1), some (.int l2), o3] [] (zk B im lm) = zeRun 88 4 [some (.ref 170), some (.int l1), some (.int (l2 + 1)), o3] [] (zk B im lm) := ze_go (ok := true) rfl 4 rfl rfl
theorem d_88_53 {B : zeB} {im : Nat → Nat → Int32} {lm : Nat → Nat → Int64} (l1 : Int32) (l2 : Int32) (o3 : Option Value)  : zeRun 88 53 [some (.ref 170), some (.int l1), some (.int l2), o3] [] (zk B im lm) = if l1 < 0 then zeRun 88 78 [some (.ref 170), some (.int l1), some (.int l2), o3] [] (zk B im lm) else zeRun 88 57 [some (.ref 170), some (.int l1), some (.int l2), o3] [] (zk B im lm) := ze_if (ok := true) rfl 2 rfl rfl
theorem d_88_78 {B : zeB} {im : Nat → Nat → Int32} {lm : Nat → Nat → Int64} (o1 : Option Value) (l2 : Int32) (o3 : Option Value)  : zeRun 88 78 [some (.ref 170), o1, some (.int l2), o3] [] (zk B im lm) = zeRun 88 4 [some (.ref 170), some (.int l2), some (.int (l2 + 1)), o3] [] (zk B im lm) := ze_go (ok := true) rfl 5 rfl rfl
theorem d_88_57 {B : zeB} {im : Nat → Nat → Int32} {lm : Nat → Nat → Int64} (l1 : Int32) (l2 : Int32) (o3 : Option Value) (c0 : zeInb (16 + l2) 360 = true) (c1 : zeInb (16 + l1) 360 = true) : zeRun 88 57 [some (.ref 170), some (.int l1), some (.int l2), o3] [] (zk B im lm) = if (im 171 (Int32.toNatClampNeg (16 + l1))) ≤ (im 171 (Int32.toNatClampNeg (16 + l2))) then zeRun 88 82 [some (.ref 170), some (.int l1), some (.int l2), o3] [] (zk B im lm) else zeRun 88 78 [some (.ref 170), some (.int l1), some (.int l2), o3] [] (zk B im lm) := ze_if (ok := (zeInb (16 + l1) 360 && (zeInb (16 + l2) 360 && true))) rfl 13 rfl (zeA2 c1 (zeA2 c0 rfl))
def J_88_48 (K4 : Int32 → Int32 → zI → zJ → zR) (l1 : Int32) (l2 : Int32) (s0 : Int32) (im : zI) (lm : zJ) : zR :=
    zCk (if s0 = 0 then true else if l1 < 0 then true else zeInb (16 + l2) 360) <|
    zCk (if s0 = 0 then true else if l1 < 0 then true else zeInb (16 + l1) 360) <|
    K4 (if s0 = 0 then l1 else if l1 < 0 then l2 else if (im 171 (Int32.toNatClampNeg (16 + l1))) ≤ (im 171 (Int32.toNatClampNeg (16 + l2))) then l1 else l2) (l2 + 1) im lm
theorem J_88_48_ok {B : zeB} (K4 : Int32 → Int32 → zI → zJ → zR) (hK4 : ∀ (l1 : Int32) (l2 : Int32) (o3 : Option Value) (im : zI) (lm : zJ), zL B 1 (K4 l1 l2 im lm) (zeRun 88 4 [some (.ref 170), some (.int l1), some (.int l2), o3] [] (zk B im lm))) (l1 : Int32) (l2 : Int32) (s0 : Int32) (o3 : Option Value) (im : zI) (lm : zJ) : zL B 1 (J_88_48 K4 l1 l2 s0 im lm) (zeRun 88 48 [some (.ref 170), some (.int l1), some (.int l2), o3] [.int s0] (zk B im lm)) := by
  unfold J_88_48
  refine zL_ifm (d_88_48 _ _ _ _) (fun h => ?_) (fun h => ?_)
  · repeat rw [if_pos h]
    refine zL_eq (d_88_82 _ _ _) ?_
    refine zL_ckt ?_
    refine zL_ckt ?_
    exact hK4 _ _ _ _ _
  · repeat rw [if_neg h]
    refine zL_ifm (d_88_53 _ _ _) (fun h => ?_) (fun h => ?_)
    · repeat rw [if_pos h]
      refine zL_eq (d_88_78 _ _ _) ?_
      refine zL_ckt ?_
      refine zL_ckt ?_
      exact hK4 _ _ _ _ _
    · repeat rw [if_neg h]
      refine zL_ck fun c1 => ?_
      refine zL_ck fun c2 => ?_
      refine zL_ifm (d_88_57 _ _ _ c1 c2) (fun h => ?_) (fun h => ?_)
      · repeat rw [if_pos h]
        refine zL_eq (d_88_82 _ _ _) ?_
        exact hK4 _ _ _ _ _
      · repeat rw [if_neg h]
        refine zL_eq (d_88_78 _ _ _) ?_
        exact hK4 _ _ _ _ _
def F_88_4  : Nat → Int32 → Int32 → zI → zJ → zR
  | 0, _, _, _, _ => none
  | n + 1, l1, l2, im, lm =>
    if (im 171 1) ≤ l2 then
      some (l1, im, lm)
    else
      J_88_48 (F_88_4  n)  l1 l2 (if (((im 171 13) >>> (l2 &&& 31)) &&& 1) = 1 then if (((im 171 14) >>> (l2 &&& 31)) &&& 1) = 0 then 1 else 0 else 0) im lm
theorem F_88_4_ok {B : zeB} : ∀ (n : Nat) (l1 : Int32) (l2 : Int32) (o3 : Option Value) (im : zI) (lm : zJ), zL B 1 (F_88_4  n l1 l2 im lm) (zeRun 88 4 [some (.ref 170), some (.int l1), some (.int l2), o3] [] (zk B im lm)) := by
  intro n
  induction n with
  | zero => intros; exact zL_none
  | succ n ih =>
    intro l1 l2 o3 im lm
    unfold F_88_4
    refine zL_if (d_88_4 _ _ _) (fun h => ?_) (fun h => ?_)
    · skip
      exact zL_ret (d_88_90 _ _ _ _)
    · skip
      refine zL_ifm (d_88_14 _ _ _) (fun h => ?_) (fun h => ?_)
      · repeat rw [if_pos h]
        refine zL_ifm (d_88_29 _ _ _) (fun h => ?_) (fun h => ?_)
        · repeat rw [if_pos h]
          refine zL_eq (d_88_43 _ _ _) ?_
          exact J_88_48_ok _ ih  _ _ _ _ _ _
        · repeat rw [if_neg h]
          refine zL_eq (d_88_47 _ _ _) ?_
          exact J_88_48_ok _ ih  _ _ _ _ _ _
      · repeat rw [if_neg h]
        refine zL_eq (d_88_47 _ _ _) ?_
        exact J_88_48_ok _ ih  _ _ _ _ _ _
def m_88  (im : zI) (lm : zJ) : zR :=
    F_88_4  2000 (-1) 0 im lm
theorem m_88_ok {B : zeB}  (im : zI) (lm : zJ) : zL B 1 (m_88  im lm) (zeRun 88 0 [some (.ref 170), none, none, none] [] (zk B im lm)) := by
  unfold m_88
  refine zL_eq (d_88_0 _ _ _) ?_
  exact F_88_4_ok  _ _ _ _ _ _
/-! X8_enter -/
theorem d_89_0 {B : zeB} {im : Nat → Nat → Int32} {lm : Nat → Nat → Int64} (l1 : Int32) (l2 : Int32) (l3 : Int32) (l4 : Int32) (l5 : Int32) (o6 : Option Value)  : zeRun 89 0 [some (.ref 170), some (.int l1), some (.int l2), some (.int l3), some (.int l4), some (.int l5), o6] [] (zk B im lm) = zeBh 89 9 [some (.ref 170), some (.int l1), some (.int l2), some (.int l3), some (.int l4), some (.int l5), o6] [] (zeRun 45 0 [some (.int (im 171 5))] [] (zk B im lm)) := ze_call (ok := true) rfl 5 rfl rfl rfl
theorem d_89_9 {B : zeB} {im : Nat → Nat → Int32} {lm : Nat → Nat → Int64} (l1 : Int32) (l2 : Int32) (l3 : Int32) (l4 : Int32) (l5 : Int32) (o6 : Option Value) (s0 : Int32) (c0 : zeInb s0 360 = true) (c1 : zeInb (s0 + 1) 360 = true) (c2 : zeInb (s0 + 2) 360 = true) (c3 : zeInb (s0 + 3) 360 = true) (c4 : zeInb (s0 + 4) 360 = true) : zeRun 89 9 [some (.ref 170), some (.int l1), some (.int l2), some (.int l3), some (.int l4), some (.int l5), o6] [.int s0] (zk B im lm) = some (none, (zk B (zeU2 (zeU2 (zeU2 (zeU2 (zeU2 (zeU2 im 171 (Int32.toNatClampNeg s0) l1) 171 (Int32.toNatClampNeg (s0 + 1)) l2) 171 (Int32.toNatClampNeg (s0 + 2)) l3) 171 (Int32.toNatClampNeg (s0 + 3)) l4) 171 (Int32.toNatClampNeg (s0 + 4)) l5) 171 5 (((zeU2 (zeU2 (zeU2 (zeU2 (zeU2 im 171 (Int32.toNatClampNeg s0) l1) 171 (Int32.toNatClampNeg (s0 + 1)) l2) 171 (Int32.toNatClampNeg (s0 + 2)) l3) 171 (Int32.toNatClampNeg (s0 + 3)) l4) 171 (Int32.toNatClampNeg (s0 + 4)) l5) 171 5) + 1)) lm)) := ze_ret (ok := (zeInb (s0 + 4) 360 && (zeInb (s0 + 3) 360 && (zeInb (s0 + 2) 360 && (zeInb (s0 + 1) 360 && (zeInb s0 360 && true)))))) rfl 43 rfl (zeA2 c4 (zeA2 c3 (zeA2 c2 (zeA2 c1 (zeA2 c0 rfl)))))
def m_89 (l1 : Int32) (l2 : Int32) (l3 : Int32) (l4 : Int32) (l5 : Int32) (im : zI) (lm : zJ) : zR :=
    zCk (zeInb ((60 + (5 * (im 171 5))) : Int32) 360) <|
    zCk (zeInb (((60 + (5 * (im 171 5))) : Int32) + 1) 360) <|
    zCk (zeInb (((60 + (5 * (im 171 5))) : Int32) + 2) 360) <|
    zCk (zeInb (((60 + (5 * (im 171 5))) : Int32) + 3) 360) <|
    zCk (zeInb (((60 + (5 * (im 171 5))) : Int32) + 4) 360) <|
    some (0, (zeU2 (zeU2 (zeU2 (zeU2 (zeU2 (zeU2 im 171 (Int32.toNatClampNeg ((60 + (5 * (im 171 5))) : Int32)) l1) 171 (Int32.toNatClampNeg (((60 + (5 * (im 171 5))) : Int32) + 1)) l2) 171 (Int32.toNatClampNeg (((60 + (5 * (im 171 5))) : Int32) + 2)) l3) 171 (Int32.toNatClampNeg (((60 + (5 * (im 171 5))) : Int32) + 3)) l4) 171 (Int32.toNatClampNeg (((60 + (5 * (im 171 5))) : Int32) + 4)) l5) 171 5 (((zeU2 (zeU2 (zeU2 (zeU2 (zeU2 im 171 (Int32.toNatClampNeg ((60 + (5 * (im 171 5))) : Int32)) l1) 171 (Int32.toNatClampNeg (((60 + (5 * (im 171 5))) : Int32) + 1)) l2) 171 (Int32.toNatClampNeg (((60 + (5 * (im 171 5))) : Int32) + 2)) l3) 171 (Int32.toNatClampNeg (((60 + (5 * (im 171 5))) : Int32) + 3)) l4) 171 (Int32.toNatClampNeg (((60 + (5 * (im 171 5))) : Int32) + 4)) l5) 171 5) + 1)), lm)
theorem m_89_ok {B : zeB} (l1 : Int32) (l2 : Int32) (l3 : Int32) (l4 : Int32) (l5 : Int32) (im : zI) (lm : zJ) : zL B 0 (m_89 l1 l2 l3 l4 l5 im lm) (zeRun 89 0 [some (.ref 170), some (.int l1), some (.int l2), some (.int l3), some (.int l4), some (.int l5), none] [] (zk B im lm)) := by
  unfold m_89
  refine zL_bdp (e := ((60 + (5 * (im 171 5))) : Int32)) (d_89_0 _ _ _ _ _ _) (m_45_ok _ _ _) ?_
  refine zL_ck fun c1 => ?_
  refine zL_ck fun c2 => ?_
  refine zL_ck fun c3 => ?_
  refine zL_ck fun c4 => ?_
  refine zL_ck fun c5 => ?_
  exact zL_retv (d_89_9 _ _ _ _ _ _ _ c1 c2 c3 c4 c5)
/-! X8_answers -/
theorem d_90_0 {B : zeB} {im : Nat → Nat → Int32} {lm : Nat → Nat → Int64} (l1 : Int32) (o2 : Option Value) (o3 : Option Value) (o4 : Option Value) (o5 : Option Value) (o6 : Option Value)  : zeRun 90 0 [some (.ref 170), some (.int l1), o2, o3, o4, o5, o6] [] (zk B im lm) = zeBh 90 4 [some (.ref 170), some (.int l1), o2, o3, o4, o5, o6] [] (zeRun 47 0 [some (.ref 170), none, none, none, none, none, none] [] (zk B im lm)) := ze_call (ok := true) rfl 2 rfl rfl rfl
theorem d_90_4 {B : zeB} {im : Nat → Nat → Int32} {lm : Nat → Nat → Int64} (l1 : Int32) (o2 : Option Value) (o3 : Option Value) (o4 : Option Value) (o5 : Option Value) (o6 : Option Value)  : zeRun 90 4 [some (.ref 170), some (.int l1), o2, o3, o4, o5, o6] [] (zk B im lm) = if (im 171 0) = 1 then zeRun 90 16 [some (.ref 170), some (.int l1), some (.int (im 171 0)), o3, o4, o5, o6] [] (zk B im lm) else zeRun 90 23 [some (.ref 170), some (.int l1), some (.int (im 171 0)), o3, o4, o5, o6] [] (zk B im lm) := ze_if (ok := true) rfl 8 rfl rfl
theorem d_90_16 {B : zeB} {im : Nat → Nat → Int32} {lm : Nat → Nat → Int64} (l1 : Int32) (l2 : Int32) (o3 : Option Value) (o4 : Option Value) (o5 : Option Value) (o6 : Option Value)  : zeRun 90 16 [some (.ref 170), some (.int l1), some (.int l2), o3, o4, o5, o6] [] (zk B im lm) = zeBh 90 20 [some (.ref 170), some (.int l1), some (.int l2), o3, o4, o5, o6] [] (zeRun 64 0 [some (.ref 170), none, none, none, none] [] (zk B im lm)) := ze_call (ok := true) rfl 2 rfl rfl rfl
theorem d_90_20 {B : zeB} {im : Nat → Nat → Int32} {lm : Nat → Nat → Int64} (l1 : Int32) (l2 : Int32) (o3 : Option Value) (o4 : Option Value) (o5 : Option Value) (o6 : Option Value) (s0 : Int32)  : zeRun 90 20 [some (.ref 170), some (.int l1), some (.int l2), o3, o4, o5, o6] [.int s0] (zk B im lm) = zeRun 90 24 [some (.ref 170), some (.int l1), some (.int l2), o3, o4, o5, o6] [.int s0] (zk B im lm) := ze_go (ok := true) rfl 1 rfl rfl
theorem d_90_23 {B : zeB} {im : Nat → Nat → Int32} {lm : Nat → Nat → Int64} (l1 : Int32) (l2 : Int32) (o3 : Option Value) (o4 : Option Value) (o5 : Option Value) (o6 : Option Value)  : zeRun 90 23 [some (.ref 170), some (.int l1), some (.int l2), o3, o4, o5, o6] [] (zk B im lm) = zeRun 90 24 [some (.ref 170), some (.int l1), some (.int l2), o3, o4, o5, o6] [.int 0] (zk B im lm) := ze_go (ok := true) rfl 1 rfl rfl
theorem d_90_24 {B : zeB} {im : Nat → Nat → Int32} {lm : Nat → Nat → Int64} (l1 : Int32) (l2 : Int32) (o3 : Option Value) (o4 : Option Value) (o5 : Option Value) (o6 : Option Value) (s0 : Int32)  : zeRun 90 24 [some (.ref 170), some (.int l1), some (.int l2), o3, o4, o5, o6] [.int s0] (zk B im lm) = if l2 = 1 then zeRun 90 30 [some (.ref 170), some (.int l1), some (.int l2), some (.int s0), o4, o5, o6] [] (zk B im lm) else zeRun 90 39 [some (.ref 170), some (.int l1), some (.int l2), some (.int s0), o4, o5, o6] [] (zk B im lm) := ze_if (ok := true) rfl 4 rfl rfl
theorem d_90_30 {B : zeB} {im : Nat → Nat → Int32} {lm : Nat → Nat → Int64} (l1 : Int32) (l2 : Int32) (o3 : Option Value) (o4 : Option Value) (o5 : Option Value) (o6 : Option Value)  : zeRun 90 30 [some (.ref 170), some (.int l1), some (.int l2), o3, o4, o5, o6] [] (zk B im lm) = zeRun 90 55 [some (.ref 170), some (.int l1), some (.int l2), o3, o4, o5, o6] [.int (im 182 0)] (zk B im lm) := ze_go (ok := true) rfl 5 rfl rfl
theorem d_90_39 {B : zeB} {im : Nat → Nat → Int32} {lm : Nat → Nat → Int64} (l1 : Int32) (l2 : Int32) (o3 : Option Value) (o4 : Option Value) (o5 : Option Value) (o6 : Option Value)  : zeRun 90 39 [some (.ref 170), some (.int l1), some (.int l2), o3, o4, o5, o6] [] (zk B im lm) = if l2 = 3 then zeRun 90 44 [some (.ref 170), some (.int l1), some (.int l2), o3, o4, o5, o6] [] (zk B im lm) else zeRun 90 51 [some (.ref 170), some (.int l1), some (.int l2), o3, o4, o5, o6] [] (zk B im lm) := ze_if (ok := true) rfl 3 rfl rfl
theorem d_90_44 {B : zeB} {im : Nat → Nat → Int32} {lm : Nat → Nat → Int64} (l1 : Int32) (l2 : Int32) (o3 : Option Value) (o4 : Option Value) (o5 : Option Value) (o6 : Option Value)  : zeRun 90 44 [some (.ref 170), some (.int l1), some (.int l2), o3, o4, o5, o6] [] (zk B im lm) = zeRun 90 55 [some (.ref 170), some (.int l1), some (.int l2), o3, o4, o5, o6] [.int (im 170 13)] (zk B im lm) := ze_go (ok := true) rfl 3 rfl rfl
theorem d_90_51 {B : zeB} {im : Nat → Nat → Int32} {lm : Nat → Nat → Int64} (l1 : Int32) (l2 : Int32) (o3 : Option Value) (o4 : Option Value) (o5 : Option Value) (o6 : Option Value)  : zeRun 90 51 [some (.ref 170), some (.int l1), some (.int l2), o3, o4, o5, o6] [] (zk B im lm) = zeBh 90 55 [some (.ref 170), some (.int l1), some (.int l2), o3, o4, o5, o6] [] (zeRun 88 0 [some (.ref 170), none, none, none] [] (zk B im lm)) := ze_call (ok := true) rfl 2 rfl rfl rfl
theorem d_90_55 {B : zeB} {im : Nat → Nat → Int32} {lm : Nat → Nat → Int64} (l1 : Int32) (l2 : Int32) (o3 : Option Value) (o4 : Option Value) (o5 : Option Value) (o6 : Option Value) (s0 : Int32)  : zeRun 90 55 [some (.ref 170), some (.int l1), some (.int l2), o3, o4, o5, o6] [.int s0] (zk B im lm) = if l2 = 1 then zeRun 90 62 [some (.ref 170), some (.int l1), some (.int l2), o3, some (.int s0), o5, o6] [] (zk B im lm) else zeRun 90 164 [some (.ref 170), some (.int l1), some (.int l2), o3, some (.int s0), o5, o6] [] (zk B im lm) := ze_if (ok := true) rfl 4 rfl rfl
theorem d_90_62 {B : zeB} {im : Nat → Nat → Int32} {lm : Nat → Nat → Int64} (l1 : Int32) (o2 : Option Value) (o3 : Option Value) (l4 : Int32) (o5 : Option Value) (o6 : Option Value)  : zeRun 90 62 [some (.ref 170), some (.int l1), o2, o3, some (.int l4), o5, o6] [] (zk B im lm) = if (im 171 14) = 0 then zeRun 90 72 [some (.ref 170), some (.int l1), o2, o3, some (.int l4), o5, o6] [] (zk B im lm) else zeRun 90 76 [some (.ref 170), some (.int l1), o2, o3, some (.int l4), o5, o6] [] (zk B im lm) := ze_if (ok := true) rfl 5 rfl rfl
theorem d_90_72 {B : zeB} {im : Nat → Nat → Int32} {lm : Nat → Nat → Int64} (l1 : Int32) (o2 : Option Value) (o3 : Option Value) (l4 : Int32) (o5 : Option Value) (o6 : Option Value)  : zeRun 90 72 [some (.ref 170), some (.int l1), o2, o3, some (.int l4), o5, o6] [] (zk B im lm) = zeRun 90 77 [some (.ref 170), some (.int l1), o2, o3, some (.int l4), o5, o6] [.int 0] (zk B im lm) := ze_go (ok := true) rfl 2 rfl rfl
theorem d_90_76 {B : zeB} {im : Nat → Nat → Int32} {lm : Nat → Nat → Int64} (l1 : Int32) (o2 : Option Value) (o3 : Option Value) (l4 : Int32) (o5 : Option Value) (o6 : Option Value)  : zeRun 90 76 [some (.ref 170), some (.int l1), o2, o3, some (.int l4), o5, o6] [] (zk B im lm) = zeRun 90 77 [some (.ref 170), some (.int l1), o2, o3, some (.int l4), o5, o6] [.int 1] (zk B im lm) := ze_go (ok := true) rfl 1 rfl rfl
theorem d_90_164 {B : zeB} {im : Nat → Nat → Int32} {lm : Nat → Nat → Int64} (l1 : Int32) (l2 : Int32) (o3 : Option Value) (l4 : Int32) (o5 : Option Value) (o6 : Option Value)  : zeRun 90 164 [some (.ref 170), some (.int l1), some (.int l2), o3, some (.int l4), o5, o6] [] (zk B im lm) = if l2 = 3 then zeRun 90 169 [some (.ref 170), some (.int l1), some (.int l2), o3, some (.int l4), o5, o6] [] (zk B im lm) else zeRun 90 207 [some (.ref 170), some (.int l1), some (.int l2), o3, some (.int l4), o5, o6] [] (zk B im lm) := ze_if (ok := true) rfl 3 rfl rfl
theorem d_90_169 {B : zeB} {im : Nat → Nat → Int32} {lm : Nat → Nat → Int64} (l1 : Int32) (o2 : Option Value) (o3 : Option Value) (l4 : Int32) (o5 : Option Value) (o6 : Option Value)  : zeRun 90 169 [some (.ref 170), some (.int l1), o2, o3, some (.int l4), o5, o6] [] (zk B im lm) = zeBh 90 190 [some (.ref 170), some (.int l1), o2, o3, some (.int l4), o5, o6] [] (zeRun 89 0 [some (.ref 170), some (.int l4), some (.int 2), some (.int (im 171 2)), some (.int (im 171 12)), some (.int l1), none] [] (zk B im lm)) := ze_call (ok := true) rfl 13 rfl rfl rfl
theorem d_90_190 {B : zeB} {im : Nat → Nat → Int32} {lm : Nat → Nat → Int64} (o1 : Option Value) (o2 : Option Value) (o3 : Option Value) (l4 : Int32) (o5 : Option Value) (o6 : Option Value)  : zeRun 90 190 [some (.ref 170), o1, o2, o3, some (.int l4), o5, o6] [] (zk B im lm) = zeRun 90 259 [some (.ref 170), o1, o2, o3, some (.int l4), o5, o6] [] (zk B (zeU2 (zeU2 im 171 0 0) 171 2 (-1)) lm) := ze_go (ok := true) rfl 11 rfl rfl
theorem d_90_207 {B : zeB} {im : Nat → Nat → Int32} {lm : Nat → Nat → Int64} (l1 : Int32) (o2 : Option Value) (o3 : Option Value) (l4 : Int32) (o5 : Option Value) (o6 : Option Value) (c0 : zeInb (22 + l4) 360 = true) : zeRun 90 207 [some (.ref 170), some (.int l1), o2, o3, some (.int l4), o5, o6] [] (zk B im lm) = zeBh 90 226 [some (.ref 170), some (.int l1), o2, o3, some (.int l4), o5, o6] [] (zeRun 89 0 [some (.ref 170), some (.int l4), some (.int 3), some (.int (-1)), some (.int (im 171 (Int32.toNatClampNeg (22 + l4)))), some (.int l1), none] [] (zk B im lm)) := ze_call (ok := (zeInb (22 + l4) 360 && true)) rfl 12 rfl rfl (zeA2 c0 rfl)
theorem d_90_226 {B : zeB} {im : Nat → Nat → Int32} {lm : Nat → Nat → Int64} (o1 : Option Value) (o2 : Option Value) (o3 : Option Value) (l4 : Int32) (o5 : Option Value) (o6 : Option Value)  : zeRun 90 226 [some (.ref 170), o1, o2, o3, some (.int l4), o5, o6] [] (zk B im lm) = zeBh 90 249 [some (.ref 170), o1, o2, o3, some (.int l4), o5, o6] [.int 0, .ref 171] (zeRun 88 0 [some (.ref 170), none, none, none] [] (zk B (zeU2 im 171 14 ((im 171 14) ||| (1 <<< (l4 &&& 31)))) lm)) := ze_call (ok := true) rfl 15 rfl rfl rfl
theorem d_90_249 {B : zeB} {im : Nat → Nat → Int32} {lm : Nat → Nat → Int64} (o1 : Option Value) (o2 : Option Value) (o3 : Option Value) (l4 : Int32) (o5 : Option Value) (o6 : Option Value) (s1 : Int32) (s2 : Int32)  : zeRun 90 249 [some (.ref 170), o1, o2, o3, some (.int l4), o5, o6] [.int s2, .int s1, .ref 171] (zk B im lm) = if 0 ≤ s2 then zeRun 90 257 [some (.ref 170), o1, o2, o3, some (.int l4), o5, o6] [.int s1, .ref 171] (zk B im lm) else zeRun 90 252 [some (.ref 170), o1, o2, o3, some (.int l4), o5, o6] [.int s1, .ref 171] (zk B im lm) := ze_if (ok := true) rfl 1 rfl rfl
theorem d_90_257 {B : zeB} {im : Nat → Nat → Int32} {lm : Nat → Nat → Int64} (o1 : Option Value) (o2 : Option Value) (o3 : Option Value) (l4 : Int32) (o5 : Option Value) (o6 : Option Value) (s1 : Int32)  : zeRun 90 257 [some (.ref 170), o1, o2, o3, some (.int l4), o5, o6] [.int s1, .ref 171] (zk B im lm) = zeRun 90 258 [some (.ref 170), o1, o2, o3, some (.int l4), o5, o6] [.int 5, .int s1, .ref 171] (zk B im lm) := ze_go (ok := true) rfl 1 rfl rfl
theorem d_90_252 {B : zeB} {im : Nat → Nat → Int32} {lm : Nat → Nat → Int64} (o1 : Option Value) (o2 : Option Value) (o3 : Option Value) (l4 : Int32) (o5 : Option Value) (o6 : Option Value) (s1 : Int32)  : zeRun 90 252 [some (.ref 170), o1, o2, o3, some (.int l4), o5, o6] [.int s1, .ref 171] (zk B im lm) = zeRun 90 258 [some (.ref 170), o1, o2, o3, some (.int l4), o5, o6] [.int 6, .int s1, .ref 171] (zk B im lm) := ze_go (ok := true) rfl 2 rfl rfl
theorem d_90_258 {B : zeB} {im : Nat → Nat → Int32} {lm : Nat → Nat → Int64} (o1 : Option Value) (o2 : Option Value) (o3 : Option Value) (l4 : Int32) (o5 : Option Value) (o6 : Option Value) (s1 : Int32) (s2 : Int32) (c0 : zeInb s1 360 = true) : zeRun 90 258 [some (.ref 170), o1, o2, o3, some (.int l4), o5, o6] [.int s2, .int s1, .ref 171] (zk B im lm) = zeRun 90 259 [some (.ref 170), o1, o2, o3, some (.int l4), o5, o6] [] (zk B (zeU2 im 171 (Int32.toNatClampNeg s1) s2) lm) := ze_go (ok := (zeInb s1 360 && true)) rfl 1 rfl (zeA2 c0 rfl)
theorem d_90_259 {B : zeB} {im : Nat → Nat → Int32} {lm : Nat → Nat → Int64} (o1 : Option Value) (o2 : Option Value) (o3 : Option Value) (l4 : Int32) (o5 : Option Value) (o6 : Option Value)  : zeRun 90 259 [some (.ref 170), o1, o2, o3, some (.int l4), o5, o6] [] (zk B im lm) = zeBh 90 263 [some (.ref 170), o1, o2, o3, some (.int l4), o5, o6] [] (zeRun 47 0 [some (.ref 170), none, none, none, none, none, none] [] (zk B im lm)) := ze_call (ok := true) rfl 2 rfl rfl rfl
theorem d_90_263 {B : zeB} {im : Nat → Nat → Int32} {lm : Nat → Nat → Int64} (o1 : Option Value) (o2 : Option Value) (o3 : Option Value) (l4 : Int32) (o5 : Option Value) (o6 : Option Value) (c0 : zeInb l4 6 = true) : zeRun 90 263 [some (.ref 170), o1, o2, o3, some (.int l4), o5, o6] [] (zk B im lm) = some (some (.int (im 175 (Int32.toNatClampNeg l4))), (zk B im lm)) := ze_ret (ok := (zeInb l4 6 && true)) rfl 5 rfl (zeA2 c0 rfl)
theorem d_90_77 {B : zeB} {im : Nat → Nat → Int32} {lm : Nat → Nat → Int64} (l1 : Int32) (o2 : Option Value) (o3 : Option Value) (l4 : Int32) (o5 : Option Value) (o6 : Option Value) (s0 : Int32)  : zeRun 90 77 [some (.ref 170), some (.int l1), o2, o3, some (.int l4), o5, o6] [.int s0] (zk B im lm) = zeBh 90 88 [some (.ref 170), some (.int l1), o2, o3, some (.int l4), some (.int s0), o6] [] (zeRun 49 0 [some (.int (im 171 2))] [] (zk B im lm)) := ze_call (ok := true) rfl 6 rfl rfl rfl
theorem d_90_88 {B : zeB} {im : Nat → Nat → Int32} {lm : Nat → Nat → Int64} (l1 : Int32) (o2 : Option Value) (o3 : Option Value) (l4 : Int32) (l5 : Int32) (o6 : Option Value) (s0 : Int32)  : zeRun 90 88 [some (.ref 170), some (.int l1), o2, o3, some (.int l4), some (.int l5), o6] [.int s0] (zk B im lm) = if l5 = 0 then zeRun 90 106 [some (.ref 170), some (.int l1), o2, o3, some (.int l4), some (.int l5), some (.int s0)] [.int (im 171 2), .int l5, .int l4, .ref 170] (zk B im lm) else zeRun 90 111 [some (.ref 170), some (.int l1), o2, o3, some (.int l4), some (.int l5), some (.int s0)] [.int (im 171 2), .int l5, .int l4, .ref 170] (zk B im lm) := ze_if (ok := true) rfl 10 rfl rfl
theorem d_90_106 {B : zeB} {im : Nat → Nat → Int32} {lm : Nat → Nat → Int64} (l1 : Int32) (o2 : Option Value) (o3 : Option Value) (l4 : Int32) (o5 : Option Value) (l6 : Int32) (s1 : Int32) (s2 : Int32) (s3 : Int32)  : zeRun 90 106 [some (.ref 170), some (.int l1), o2, o3, some (.int l4), o5, some (.int l6)] [.int s3, .int s2, .int s1, .ref 170] (zk B im lm) = zeRun 90 124 [some (.ref 170), some (.int l1), o2, o3, some (.int l4), o5, some (.int l6)] [.int l6, .int s3, .int s2, .int s1, .ref 170] (zk B im lm) := ze_go (ok := true) rfl 2 rfl rfl
theorem d_90_111 {B : zeB} {im : Nat → Nat → Int32} {lm : Nat → Nat → Int64} (l1 : Int32) (o2 : Option Value) (o3 : Option Value) (l4 : Int32) (o5 : Option Value) (l6 : Int32) (s1 : Int32) (s2 : Int32) (s3 : Int32)  : zeRun 90 111 [some (.ref 170), some (.int l1), o2, o3, some (.int l4), o5, some (.int l6)] [.int s3, .int s2, .int s1, .ref 170] (zk B im lm) = zeRun 90 124 [some (.ref 170), some (.int l1), o2, o3, some (.int l4), o5, some (.int l6)] [.int ((l6 * (im 171 8)) / 100), .int s3, .int s2, .int s1, .ref 170] (zk B im lm) := ze_go (ok := true) rfl 8 rfl rfl
theorem d_90_124 {B : zeB} {im : Nat → Nat → Int32} {lm : Nat → Nat → Int64} (l1 : Int32) (o2 : Option Value) (o3 : Option Value) (l4 : Int32) (o5 : Option Value) (o6 : Option Value) (s1 : Int32) (s2 : Int32) (s3 : Int32) (s4 : Int32)  : zeRun 90 124 [some (.ref 170), some (.int l1), o2, o3, some (.int l4), o5, o6] [.int s4, .int s3, .int s2, .int s1, .ref 170] (zk B im lm) = zeBh 90 128 [some (.ref 170), some (.int l1), o2, o3, some (.int l4), o5, o6] [] (zeRun 89 0 [some (.ref 170), some (.int s1), some (.int s2), some (.int s3), some (.int s4), some (.int l1), none] [] (zk B im lm)) := ze_call (ok := true) rfl 2 rfl rfl rfl
theorem d_90_128 {B : zeB} {im : Nat → Nat → Int32} {lm : Nat → Nat → Int64} (l1 : Int32) (o2 : Option Value) (o3 : Option Value) (l4 : Int32) (o5 : Option Value) (o6 : Option Value)  : zeRun 90 128 [some (.ref 170), some (.int l1), o2, o3, some (.int l4), o5, o6] [] (zk B im lm) = if l1 = 1 then zeRun 90 147 [some (.ref 170), some (.int l1), o2, o3, some (.int l4), o5, o6] [] (zk B (zeU2 im 171 14 ((im 171 14) ||| (1 <<< (l4 &&& 31)))) lm) else zeRun 90 161 [some (.ref 170), some (.int l1), o2, o3, some (.int l4), o5, o6] [] (zk B (zeU2 im 171 14 ((im 171 14) ||| (1 <<< (l4 &&& 31)))) lm) := ze_if (ok := true) rfl 13 rfl rfl
theorem d_90_147 {B : zeB} {im : Nat → Nat → Int32} {lm : Nat → Nat → Int64} (o1 : Option Value) (o2 : Option Value) (o3 : Option Value) (l4 : Int32) (o5 : Option Value) (o6 : Option Value)  : zeRun 90 147 [some (.ref 170), o1, o2, o3, some (.int l4), o5, o6] [] (zk B im lm) = zeRun 90 259 [some (.ref 170), o1, o2, o3, some (.int l4), o5, o6] [] (zk B (zeU2 (zeU2 im 171 0 0) 171 2 (-1)) lm) := ze_go (ok := true) rfl 11 rfl rfl
theorem d_90_161 {B : zeB} {im : Nat → Nat → Int32} {lm : Nat → Nat → Int64} (o1 : Option Value) (o2 : Option Value) (o3 : Option Value) (l4 : Int32) (o5 : Option Value) (o6 : Option Value)  : zeRun 90 161 [some (.ref 170), o1, o2, o3, some (.int l4), o5, o6] [] (zk B im lm) = zeRun 90 259 [some (.ref 170), o1, o2, o3, some (.int l4), o5, o6] [] (zk B im lm) := ze_go (ok := true) rfl 1 rfl rfl
def J_90_259  (l4 : Int32) (im : zI) (lm : zJ) : zR :=
    zBd (m_47  im lm) fun _ im1 lm1 =>
    zCk (zeInb l4 6) <|
    some ((im1 175 (Int32.toNatClampNeg l4)), im1, lm1)
theorem J_90_259_ok {B : zeB} (l4 : Int32) (o1 : Option Value) (o2 : Option Value) (o3 : Option Value) (o5 : Option Value) (o6 : Option Value) (im : zI) (lm : zJ) : zL B 1 (J_90_259  l4 im lm) (zeRun 90 259 [some (.ref 170), o1, o2, o3, some (.int l4), o5, o6] [] (zk B im lm)) := by
  unfold J_90_259
  refine zL_bdv (d_90_259 _ _ _ _ _ _) (m_47_ok _ _) fun _ im1 lm1 => ?_
  refine zL_ck fun c1 => ?_
  exact zL_ret (d_90_263 _ _ _ _ _ _ c1)
def J_90_258  (l4 : Int32) (s1 : Int32) (s2 : Int32) (im : zI) (lm : zJ) : zR :=
    zCk (zeInb s1 360) <|
    J_90_259   l4 (zeU2 im 171 (Int32.toNatClampNeg s1) s2) lm
theorem J_90_258_ok {B : zeB} (l4 : Int32) (s1 : Int32) (s2 : Int32) (o1 : Option Value) (o2 : Option Value) (o3 : Option Value) (o5 : Option Value) (o6 : Option Value) (im : zI) (lm : zJ) : zL B 1 (J_90_258  l4 s1 s2 im lm) (zeRun 90 258 [some (.ref 170), o1, o2, o3, some (.int l4), o5, o6] [.int s2, .int s1, .ref 171] (zk B im lm)) := by
  unfold J_90_258
  refine zL_ck fun c1 => ?_
  refine zL_eq (d_90_258 _ _ _ _ _ _ _ _ c1) ?_
  exact J_90_259_ok   _ _ _ _ _ _ _ _
def J_90_124  (l1 : Int32) (l4 : Int32) (s1 : Int32) (s2 : Int32) (s3 : Int32) (s4 : Int32) (im : zI) (lm : zJ) : zR :=
    zBd (m_89 s1 s2 s3 s4 l1 im lm) fun _ im1 lm1 =>
    J_90_259   l4 (if l1 = 1 then (zeU2 (zeU2 (zeU2 im1 171 14 ((im1 171 14) ||| (1 <<< (l4 &&& 31)))) 171 0 0) 171 2 (-1)) else (zeU2 im1 171 14 ((im1 171 14) ||| (1 <<< (l4 &&& 31))))) lm1
theorem J_90_124_ok {B : zeB} (l1 : Int32) (l4 : Int32) (s1 : Int32) (s2 : Int32) (s3 : Int32) (s4 : Int32) (o2 : Option Value) (o3 : Option Value) (o5 : Option Value) (o6 : Option Value) (im : zI) (lm : zJ) : zL B 1 (J_90_124  l1 l4 s1 s2 s3 s4 im lm) (zeRun 90 124 [some (.ref 170), some (.int l1), o2, o3, some (.int l4), o5, o6] [.int s4, .int s3, .int s2, .int s1, .ref 170] (zk B im lm)) := by
  unfold J_90_124
  refine zL_bdv (d_90_124 _ _ _ _ _ _ _ _ _ _) (m_89_ok _ _ _ _ _ _ _) fun _ im1 lm1 => ?_
  refine zL_ifm (d_90_128 _ _ _ _ _ _) (fun h => ?_) (fun h => ?_)
  · repeat rw [if_pos h]
    refine zL_eq (d_90_147 _ _ _ _ _ _) ?_
    exact J_90_259_ok   _ _ _ _ _ _ _ _
  · repeat rw [if_neg h]
    refine zL_eq (d_90_161 _ _ _ _ _ _) ?_
    exact J_90_259_ok   _ _ _ _ _ _ _ _
def J_90_77  (l1 : Int32) (l4 : Int32) (s0 : Int32) (im : zI) (lm : zJ) : zR :=
    J_90_124   l1 l4 l4 s0 (im 171 2) (if s0 = 0 then ((100 * (((im 171 2) / 5) + 1)) : Int32) else ((((100 * (((im 171 2) / 5) + 1)) : Int32) * (im 171 8)) / 100)) im lm
theorem J_90_77_ok {B : zeB} (l1 : Int32) (l4 : Int32) (s0 : Int32) (o2 : Option Value) (o3 : Option Value) (o5 : Option Value) (o6 : Option Value) (im : zI) (lm : zJ) : zL B 1 (J_90_77  l1 l4 s0 im lm) (zeRun 90 77 [some (.ref 170), some (.int l1), o2, o3, some (.int l4), o5, o6] [.int s0] (zk B im lm)) := by
  unfold J_90_77
  refine zL_bdp (e := ((100 * (((im 171 2) / 5) + 1)) : Int32)) (d_90_77 _ _ _ _ _ _ _) (m_49_ok _ _ _) ?_
  refine zL_ifm (d_90_88 _ _ _ _ _ _ _) (fun h => ?_) (fun h => ?_)
  · repeat rw [if_pos h]
    refine zL_eq (d_90_106 _ _ _ _ _ _ _ _ _) ?_
    exact J_90_124_ok   _ _ _ _ _ _ _ _ _ _ _ _
  · repeat rw [if_neg h]
    refine zL_eq (d_90_111 _ _ _ _ _ _ _ _ _) ?_
    exact J_90_124_ok   _ _ _ _ _ _ _ _ _ _ _ _
def J_90_55  (l1 : Int32) (l2 : Int32) (s0 : Int32) (im : zI) (lm : zJ) : zR :=
    if l2 = 1 then
      J_90_77   l1 s0 (if (im 171 14) = 0 then 0 else 1) im lm
    else
      if l2 = 3 then
        zBd (m_89 s0 2 (im 171 2) (im 171 12) l1 im lm) fun _ im1 lm1 =>
        J_90_259   s0 (zeU2 (zeU2 im1 171 0 0) 171 2 (-1)) lm1
      else
        zCk (zeInb (22 + s0) 360) <|
        zBd (m_89 s0 3 (-1) (im 171 (Int32.toNatClampNeg (22 + s0))) l1 im lm) fun _ im2 lm2 =>
        zBd (m_88  (zeU2 im2 171 14 ((im2 171 14) ||| (1 <<< (s0 &&& 31)))) lm2) fun v3 im3 lm3 =>
        J_90_258   s0 0 (if 0 ≤ v3 then 5 else 6) im3 lm3
theorem J_90_55_ok {B : zeB} (l1 : Int32) (l2 : Int32) (s0 : Int32) (o3 : Option Value) (o4 : Option Value) (o5 : Option Value) (o6 : Option Value) (im : zI) (lm : zJ) : zL B 1 (J_90_55  l1 l2 s0 im lm) (zeRun 90 55 [some (.ref 170), some (.int l1), some (.int l2), o3, o4, o5, o6] [.int s0] (zk B im lm)) := by
  unfold J_90_55
  refine zL_if (d_90_55 _ _ _ _ _ _ _) (fun h => ?_) (fun h => ?_)
  · skip
    refine zL_ifm (d_90_62 _ _ _ _ _ _) (fun h => ?_) (fun h => ?_)
    · repeat rw [if_pos h]
      refine zL_eq (d_90_72 _ _ _ _ _ _) ?_
      exact J_90_77_ok   _ _ _ _ _ _ _ _ _
    · repeat rw [if_neg h]
      refine zL_eq (d_90_76 _ _ _ _ _ _) ?_
      exact J_90_77_ok   _ _ _ _ _ _ _ _ _
  · skip
    refine zL_if (d_90_164 _ _ _ _ _ _) (fun h => ?_) (fun h => ?_)
    · skip
      refine zL_bdv (d_90_169 _ _ _ _ _ _) (m_89_ok _ _ _ _ _ _ _) fun _ im1 lm1 => ?_
      refine zL_eq (d_90_190 _ _ _ _ _ _) ?_
      exact J_90_259_ok   _ _ _ _ _ _ _ _
    · skip
      refine zL_ck fun c1 => ?_
      refine zL_bdv (d_90_207 _ _ _ _ _ _ c1) (m_89_ok _ _ _ _ _ _ _) fun _ im2 lm2 => ?_
      refine zL_bd (d_90_226 _ _ _ _ _ _) (m_88_ok _ _) fun v3 im3 lm3 => ?_
      refine zL_ifm (d_90_249 _ _ _ _ _ _ _ _) (fun h => ?_) (fun h => ?_)
      · repeat rw [if_pos h]
        refine zL_eq (d_90_257 _ _ _ _ _ _ _) ?_
        exact J_90_258_ok   _ _ _ _ _ _ _ _ _ _
      · repeat rw [if_neg h]
        refine zL_eq (d_90_252 _ _ _ _ _ _ _) ?_
        exact J_90_258_ok   _ _ _ _ _ _ _ _ _ _
def J_90_24  (l1 : Int32) (l2 : Int32) (s0 : Int32) (im : zI) (lm : zJ) : zR :=
    if l2 = 1 then
      J_90_55   l1 l2 (im 182 0) im lm
    else
      if l2 = 3 then
        J_90_55   l1 l2 (im 170 13) im lm
      else
        zBd (m_88  im lm) fun v1 im1 lm1 =>
        J_90_55   l1 l2 v1 im1 lm1
theorem J_90_24_ok {B : zeB} (l1 : Int32) (l2 : Int32) (s0 : Int32) (o3 : Option Value) (o4 : Option Value) (o5 : Option Value) (o6 : Option Value) (im : zI) (lm : zJ) : zL B 1 (J_90_24  l1 l2 s0 im lm) (zeRun 90 24 [some (.ref 170), some (.int l1), some (.int l2), o3, o4, o5, o6] [.int s0] (zk B im lm)) := by
  unfold J_90_24
  refine zL_if (d_90_24 _ _ _ _ _ _ _) (fun h => ?_) (fun h => ?_)
  · skip
    refine zL_eq (d_90_30 _ _ _ _ _ _) ?_
    exact J_90_55_ok   _ _ _ _ _ _ _ _ _
  · skip
    refine zL_if (d_90_39 _ _ _ _ _ _) (fun h => ?_) (fun h => ?_)
    · skip
      refine zL_eq (d_90_44 _ _ _ _ _ _) ?_
      exact J_90_55_ok   _ _ _ _ _ _ _ _ _
    · skip
      refine zL_bd (d_90_51 _ _ _ _ _ _) (m_88_ok _ _) fun v1 im1 lm1 => ?_
      exact J_90_55_ok   _ _ _ _ _ _ _ _ _
def m_90 (l1 : Int32) (im : zI) (lm : zJ) : zR :=
    zBd (m_47  im lm) fun _ im1 lm1 =>
    if (im1 171 0) = 1 then
      zBd (m_64  im1 lm1) fun v2 im2 lm2 =>
      J_90_24   l1 (im1 171 0) v2 im2 lm2
    else
      J_90_24   l1 (im1 171 0) 0 im1 lm1
theorem m_90_ok {B : zeB} (l1 : Int32) (im : zI) (lm : zJ) : zL B 1 (m_90 l1 im lm) (zeRun 90 0 [some (.ref 170), some (.int l1), none, none, none, none, none] [] (zk B im lm)) := by
  unfold m_90
  refine zL_bdv (d_90_0 _ _ _ _ _ _) (m_47_ok _ _) fun _ im1 lm1 => ?_
  refine zL_if (d_90_4 _ _ _ _ _ _) (fun h => ?_) (fun h => ?_)
  · skip
    refine zL_bd (d_90_16 _ _ _ _ _ _) (m_64_ok _ _) fun v2 im2 lm2 => ?_
    refine zL_eq (d_90_20 _ _ _ _ _ _ _) ?_
    exact J_90_24_ok   _ _ _ _ _ _ _ _ _
  · skip
    refine zL_eq (d_90_23 _ _ _ _ _ _) ?_
    exact J_90_24_ok   _ _ _ _ _ _ _ _ _
