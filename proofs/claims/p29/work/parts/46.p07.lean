/-! pure: X7_answerFinal, X4_scoreOf, X7_replayedScore, X7_doAnswer, X7_answer, X7_isEntry, X7_entry, X7_doWager, X7_wager, X0_isWagerWanting, X0_wagersWanting, X7_doWagerFinal, X7_wagerFinal -/
/-! X7_answerFinal -/
theorem d_84_0 {B : zeB} {im : Nat → Nat → Int32} {lm : Nat → Nat → Int64} (l1 : Int32) (l2 : Int32) (c0 : zeInb l1 6 = true) : zeRun 84 0 [some (.ref 16), some (.int l1), some (.int l2)] [] (zk B im lm) = if l2 = 0 then zeRun 84 31 [some (.ref 16), some (.int l1), some (.int l2)] [.int (im 25 (Int32.toNatClampNeg l1)), .int (-10000005), .int 3, .int l1, .ref 26] (zk B im lm) else zeRun 84 27 [some (.ref 16), some (.int l1), some (.int l2)] [.int (im 25 (Int32.toNatClampNeg l1)), .int (-10000005), .int 3, .int l1, .ref 26] (zk B im lm) := ze_if (ok := (zeInb l1 6 && true)) rfl 14 rfl (zeA2 c0 rfl)
theorem d_84_31 {B : zeB} {im : Nat → Nat → Int32} {lm : Nat → Nat → Int64} (o1 : Option Value) (o2 : Option Value) (s1 : Int32) (s2 : Int32) (s3 : Int32) (s4 : Int32)  : zeRun 84 31 [some (.ref 16), o1, o2] [.int s4, .int s3, .int s2, .int s1, .ref 26] (zk B im lm) = zeRun 84 32 [some (.ref 16), o1, o2] [.int 0, .int s4, .int s3, .int s2, .int s1, .ref 26] (zk B im lm) := ze_go (ok := true) rfl 1 rfl rfl
theorem d_84_27 {B : zeB} {im : Nat → Nat → Int32} {lm : Nat → Nat → Int64} (o1 : Option Value) (o2 : Option Value) (s1 : Int32) (s2 : Int32) (s3 : Int32) (s4 : Int32)  : zeRun 84 27 [some (.ref 16), o1, o2] [.int s4, .int s3, .int s2, .int s1, .ref 26] (zk B im lm) = zeRun 84 32 [some (.ref 16), o1, o2] [.int 1, .int s4, .int s3, .int s2, .int s1, .ref 26] (zk B im lm) := ze_go (ok := true) rfl 2 rfl rfl
theorem d_84_32 {B : zeB} {im : Nat → Nat → Int32} {lm : Nat → Nat → Int64} (o1 : Option Value) (o2 : Option Value) (s1 : Int32) (s2 : Int32) (s3 : Int32) (s4 : Int32) (s5 : Int32)  : zeRun 84 32 [some (.ref 16), o1, o2] [.int s5, .int s4, .int s3, .int s2, .int s1, .ref 26] (zk B im lm) = zeBh 84 35 [some (.ref 16), o1, o2] [] (zeRun 71 0 [some (.ref 26), some (.int s1), some (.int s2), some (.int s3), some (.int s4), some (.int s5)] [] (zk B im lm)) := ze_call (ok := true) rfl 1 rfl rfl rfl
theorem d_84_35 {B : zeB} {im : Nat → Nat → Int32} {lm : Nat → Nat → Int64} (o1 : Option Value) (o2 : Option Value)  : zeRun 84 35 [some (.ref 16), o1, o2] [] (zk B im lm) = zeBh 84 71 [some (.ref 16), o1, o2] [.int ((im 23 0) + 1)] (zeRun 83 0 [some (.ref 23), none, none, none, none, none] [] (zk B (zeU2 im 23 0 ((im 23 0) + 1)) lm)) := ze_call (ok := true) rfl 16 rfl rfl rfl
theorem d_84_71 {B : zeB} {im : Nat → Nat → Int32} {lm : Nat → Nat → Int64} (o1 : Option Value) (o2 : Option Value) (s0 : Int32) (s1 : Int32)  : zeRun 84 71 [some (.ref 16), o1, o2] [.int s1, .int s0] (zk B im lm) = if s0 < s1 then zeRun 84 83 [some (.ref 16), o1, o2] [] (zk B im lm) else zeRun 84 74 [some (.ref 16), o1, o2] [] (zk B im lm) := ze_if (ok := true) rfl 1 rfl rfl
theorem d_84_83 {B : zeB} {im : Nat → Nat → Int32} {lm : Nat → Nat → Int64} (o0 : Option Value) (o1 : Option Value) (o2 : Option Value)  : zeRun 84 83 [o0, o1, o2] [] (zk B im lm) = some (none, (zk B im lm)) := ze_ret (ok := true) rfl 1 rfl rfl
theorem d_84_74 {B : zeB} {im : Nat → Nat → Int32} {lm : Nat → Nat → Int64} (o1 : Option Value) (o2 : Option Value)  : zeRun 84 74 [some (.ref 16), o1, o2] [] (zk B im lm) = some (none, (zk B (zeU2 im 17 0 6) lm)) := ze_ret (ok := true) rfl 5 rfl rfl
def J_84_32  (s1 : Int32) (s2 : Int32) (s3 : Int32) (s4 : Int32) (s5 : Int32) (im : zI) (lm : zJ) : zR :=
    zBd (m_71 s1 s2 s3 s4 s5 im lm) fun _ im1 lm1 =>
    zBd (m_83  (zeU2 im1 23 0 ((im1 23 0) + 1)) lm1) fun v2 im2 lm2 =>
    some (0, if ((im1 23 0) + 1) < v2 then im2 else (zeU2 im2 17 0 6), lm2)
theorem J_84_32_ok {B : zeB} (s1 : Int32) (s2 : Int32) (s3 : Int32) (s4 : Int32) (s5 : Int32) (o1 : Option Value) (o2 : Option Value) (im : zI) (lm : zJ) : zL B 0 (J_84_32  s1 s2 s3 s4 s5 im lm) (zeRun 84 32 [some (.ref 16), o1, o2] [.int s5, .int s4, .int s3, .int s2, .int s1, .ref 26] (zk B im lm)) := by
  unfold J_84_32
  refine zL_bdv (d_84_32 _ _ _ _ _ _ _) (m_71_ok _ _ _ _ _ _ _) fun _ im1 lm1 => ?_
  refine zL_bd (d_84_35 _ _) (m_83_ok _ _) fun v2 im2 lm2 => ?_
  refine zL_ifm (d_84_71 _ _ _ _) (fun h => ?_) (fun h => ?_)
  · repeat rw [if_pos h]
    exact zL_retv (d_84_83 _ _ _)
  · repeat rw [if_neg h]
    exact zL_retv (d_84_74 _ _)
def m_84 (l1 : Int32) (l2 : Int32) (im : zI) (lm : zJ) : zR :=
    zCk (zeInb l1 6) <|
    J_84_32   l1 3 (-10000005) (im 25 (Int32.toNatClampNeg l1)) (if l2 = 0 then 0 else 1) im lm
theorem m_84_ok {B : zeB} (l1 : Int32) (l2 : Int32) (im : zI) (lm : zJ) : zL B 0 (m_84 l1 l2 im lm) (zeRun 84 0 [some (.ref 16), some (.int l1), some (.int l2)] [] (zk B im lm)) := by
  unfold m_84
  refine zL_ck fun c1 => ?_
  refine zL_ifm (d_84_0 _ _ c1) (fun h => ?_) (fun h => ?_)
  · repeat rw [if_pos h]
    refine zL_eq (d_84_31 _ _ _ _ _ _) ?_
    exact J_84_32_ok   _ _ _ _ _ _ _ _ _
  · repeat rw [if_neg h]
    refine zL_eq (d_84_27 _ _ _ _ _ _) ?_
    exact J_84_32_ok   _ _ _ _ _ _ _ _ _
/-! X4_scoreOf -/
theorem d_137_0 {B : zeB} {im : Nat → Nat → Int32} {lm : Nat → Nat → Int64} (l1 : Int32)  : zeRun 137 0 [some (.ref 32), some (.int l1)] [] (zk B im lm) = zeBh 137 4 [some (.ref 32), some (.int l1)] [] (zeRun 79 0 [some (.int l1)] [] (zk B im lm)) := ze_call (ok := true) rfl 2 rfl rfl rfl
theorem d_137_4 {B : zeB} {im : Nat → Nat → Int32} {lm : Nat → Nat → Int64} (l1 : Int32) (s0 : Int32)  : zeRun 137 4 [some (.ref 32), some (.int l1)] [.int s0] (zk B im lm) = if s0 = 0 then zeRun 137 16 [some (.ref 32), some (.int l1)] [] (zk B im lm) else zeRun 137 7 [some (.ref 32), some (.int l1)] [] (zk B im lm) := ze_if (ok := true) rfl 1 rfl rfl
theorem d_137_16 {B : zeB} {im : Nat → Nat → Int32} {lm : Nat → Nat → Int64} (o0 : Option Value) (o1 : Option Value)  : zeRun 137 16 [o0, o1] [] (zk B im lm) = some (some (.int 0), (zk B im lm)) := ze_ret (ok := true) rfl 2 rfl rfl
theorem d_137_7 {B : zeB} {im : Nat → Nat → Int32} {lm : Nat → Nat → Int64} (l1 : Int32) (c0 : zeInb l1 6 = true) : zeRun 137 7 [some (.ref 32), some (.int l1)] [] (zk B im lm) = some (some (.int (im 33 (Int32.toNatClampNeg l1))), (zk B im lm)) := ze_ret (ok := (zeInb l1 6 && true)) rfl 6 rfl (zeA2 c0 rfl)
def m_137 (l1 : Int32) (im : zI) (lm : zJ) : zR :=
    zCk (if (if l1 < 0 then 0 else if 6 ≤ l1 then 0 else 1 : Int32) = 0 then true else zeInb l1 6) <|
    some (if (if l1 < 0 then 0 else if 6 ≤ l1 then 0 else 1 : Int32) = 0 then 0 else (im 33 (Int32.toNatClampNeg l1)), im, lm)
theorem m_137_ok {B : zeB} (l1 : Int32) (im : zI) (lm : zJ) : zL B 1 (m_137 l1 im lm) (zeRun 137 0 [some (.ref 32), some (.int l1)] [] (zk B im lm)) := by
  unfold m_137
  refine zL_bdp (e := (if l1 < 0 then 0 else if 6 ≤ l1 then 0 else 1 : Int32)) (d_137_0 _) (m_79_ok _ _ _) ?_
  refine zL_ifm (d_137_4 _ _) (fun h => ?_) (fun h => ?_)
  · repeat rw [if_pos h]
    refine zL_ckt ?_
    exact zL_ret (d_137_16 _ _)
  · repeat rw [if_neg h]
    refine zL_ck fun c1 => ?_
    exact zL_ret (d_137_7 _ c1)
/-! X7_replayedScore -/
theorem d_77_0 {B : zeB} {im : Nat → Nat → Int32} {lm : Nat → Nat → Int64} (l1 : Int32)  : zeRun 77 0 [some (.ref 16), some (.int l1)] [] (zk B im lm) = zeBh 77 14 [some (.ref 16), some (.int l1)] [] (zeRun 76 0 [some (.ref 32), some (.ref 26), none] [] (zk B im lm)) := ze_call (ok := true) rfl 6 rfl rfl rfl
theorem d_77_14 {B : zeB} {im : Nat → Nat → Int32} {lm : Nat → Nat → Int64} (l1 : Int32)  : zeRun 77 14 [some (.ref 16), some (.int l1)] [] (zk B im lm) = zeBh 77 22 [some (.ref 16), some (.int l1)] [] (zeRun 137 0 [some (.ref 32), some (.int l1)] [] (zk B im lm)) := ze_call (ok := true) rfl 4 rfl rfl rfl
theorem d_77_22 {B : zeB} {im : Nat → Nat → Int32} {lm : Nat → Nat → Int64} (o0 : Option Value) (o1 : Option Value) (s0 : Int32)  : zeRun 77 22 [o0, o1] [.int s0] (zk B im lm) = some (some (.int s0), (zk B im lm)) := ze_ret (ok := true) rfl 1 rfl rfl
def m_77 (l1 : Int32) (im : zI) (lm : zJ) : zR :=
    zBd (m_76  im lm) fun _ im1 lm1 =>
    zBd (m_137 l1 im1 lm1) fun v2 im2 lm2 =>
    some (v2, im2, lm2)
theorem m_77_ok {B : zeB} (l1 : Int32) (im : zI) (lm : zJ) : zL B 1 (m_77 l1 im lm) (zeRun 77 0 [some (.ref 16), some (.int l1)] [] (zk B im lm)) := by
  unfold m_77
  refine zL_bdv (d_77_0 _) (m_76_ok _ _) fun _ im1 lm1 => ?_
  refine zL_bd (d_77_14 _) (m_137_ok _ _ _) fun v2 im2 lm2 => ?_
  exact zL_ret (d_77_22 _ _ _)
/-! X7_doAnswer -/
theorem d_85_0 {B : zeB} {im : Nat → Nat → Int32} {lm : Nat → Nat → Int64} (l1 : Int32) (o2 : Option Value)  : zeRun 85 0 [some (.ref 16), some (.int l1), o2] [] (zk B im lm) = if (im 17 0) = 1 then zeRun 85 39 [some (.ref 16), some (.int l1), o2] [] (zk B im lm) else zeRun 85 11 [some (.ref 16), some (.int l1), o2] [] (zk B im lm) := ze_if (ok := true) rfl 5 rfl rfl
theorem d_85_11 {B : zeB} {im : Nat → Nat → Int32} {lm : Nat → Nat → Int64} (l1 : Int32) (o2 : Option Value)  : zeRun 85 11 [some (.ref 16), some (.int l1), o2] [] (zk B im lm) = if (im 17 0) = 3 then zeRun 85 39 [some (.ref 16), some (.int l1), o2] [] (zk B im lm) else zeRun 85 22 [some (.ref 16), some (.int l1), o2] [] (zk B im lm) := ze_if (ok := true) rfl 5 rfl rfl
theorem d_85_22 {B : zeB} {im : Nat → Nat → Int32} {lm : Nat → Nat → Int64} (l1 : Int32) (o2 : Option Value)  : zeRun 85 22 [some (.ref 16), some (.int l1), o2] [] (zk B im lm) = if (im 17 0) = 5 then zeRun 85 39 [some (.ref 16), some (.int l1), o2] [] (zk B im lm) else zeRun 85 33 [some (.ref 16), some (.int l1), o2] [] (zk B im lm) := ze_if (ok := true) rfl 5 rfl rfl
theorem d_85_33 {B : zeB} {im : Nat → Nat → Int32} {lm : Nat → Nat → Int64} (o1 : Option Value) (o2 : Option Value)  : zeRun 85 33 [some (.ref 16), o1, o2] [] (zk B im lm) = zeBh 85 38 [some (.ref 16), o1, o2] [] (zeRun 17 0 [some (.ref 16), some (.int 1)] [] (zk B im lm)) := ze_call (ok := true) rfl 3 rfl rfl rfl
theorem d_85_38 {B : zeB} {im : Nat → Nat → Int32} {lm : Nat → Nat → Int64} (o0 : Option Value) (o1 : Option Value) (o2 : Option Value) (s0 : Int32)  : zeRun 85 38 [o0, o1, o2] [.int s0] (zk B im lm) = some (some (.int s0), (zk B im lm)) := ze_ret (ok := true) rfl 1 rfl rfl
theorem d_85_39 {B : zeB} {im : Nat → Nat → Int32} {lm : Nat → Nat → Int64} (l1 : Int32) (o2 : Option Value)  : zeRun 85 39 [some (.ref 16), some (.int l1), o2] [] (zk B im lm) = zeBh 85 43 [some (.ref 16), some (.int l1), o2] [] (zeRun 8 0 [some (.ref 16)] [] (zk B im lm)) := ze_call (ok := true) rfl 2 rfl rfl rfl
theorem d_85_43 {B : zeB} {im : Nat → Nat → Int32} {lm : Nat → Nat → Int64} (l1 : Int32) (o2 : Option Value) (s0 : Int32)  : zeRun 85 43 [some (.ref 16), some (.int l1), o2] [.int s0] (zk B im lm) = zeBh 85 49 [some (.ref 16), some (.int l1), some (.int s0)] [] (zeRun 38 0 [some (.ref 16), some (.int s0)] [] (zk B im lm)) := ze_call (ok := true) rfl 4 rfl rfl rfl
theorem d_85_49 {B : zeB} {im : Nat → Nat → Int32} {lm : Nat → Nat → Int64} (l1 : Int32) (l2 : Int32) (s0 : Int32)  : zeRun 85 49 [some (.ref 16), some (.int l1), some (.int l2)] [.int s0] (zk B im lm) = if s0 = 0 then zeRun 85 52 [some (.ref 16), some (.int l1), some (.int l2)] [] (zk B im lm) else zeRun 85 58 [some (.ref 16), some (.int l1), some (.int l2)] [] (zk B im lm) := ze_if (ok := true) rfl 1 rfl rfl
theorem d_85_52 {B : zeB} {im : Nat → Nat → Int32} {lm : Nat → Nat → Int64} (o1 : Option Value) (o2 : Option Value)  : zeRun 85 52 [some (.ref 16), o1, o2] [] (zk B im lm) = zeBh 85 57 [some (.ref 16), o1, o2] [] (zeRun 17 0 [some (.ref 16), some (.int 4)] [] (zk B im lm)) := ze_call (ok := true) rfl 3 rfl rfl rfl
theorem d_85_57 {B : zeB} {im : Nat → Nat → Int32} {lm : Nat → Nat → Int64} (o0 : Option Value) (o1 : Option Value) (o2 : Option Value) (s0 : Int32)  : zeRun 85 57 [o0, o1, o2] [.int s0] (zk B im lm) = some (some (.int s0), (zk B im lm)) := ze_ret (ok := true) rfl 1 rfl rfl
theorem d_85_58 {B : zeB} {im : Nat → Nat → Int32} {lm : Nat → Nat → Int64} (l1 : Int32) (l2 : Int32)  : zeRun 85 58 [some (.ref 16), some (.int l1), some (.int l2)] [] (zk B im lm) = zeBh 85 68 [some (.ref 16), some (.int l1), some (.int l2)] [] (zeRun 70 0 [some (.ref 26)] [] (zk B im lm)) := ze_call (ok := true) rfl 4 rfl rfl rfl
theorem d_85_68 {B : zeB} {im : Nat → Nat → Int32} {lm : Nat → Nat → Int64} (l1 : Int32) (l2 : Int32) (s0 : Int32)  : zeRun 85 68 [some (.ref 16), some (.int l1), some (.int l2)] [.int s0] (zk B im lm) = if s0 = 0 then zeRun 85 78 [some (.ref 16), some (.int l1), some (.int l2)] [] (zk B im lm) else zeRun 85 71 [some (.ref 16), some (.int l1), some (.int l2)] [] (zk B im lm) := ze_if (ok := true) rfl 1 rfl rfl
theorem d_85_78 {B : zeB} {im : Nat → Nat → Int32} {lm : Nat → Nat → Int64} (l1 : Int32) (l2 : Int32)  : zeRun 85 78 [some (.ref 16), some (.int l1), some (.int l2)] [] (zk B im lm) = if (im 17 0) = 1 then zeRun 85 89 [some (.ref 16), some (.int l1), some (.int l2)] [] (zk B im lm) else zeRun 85 98 [some (.ref 16), some (.int l1), some (.int l2)] [] (zk B im lm) := ze_if (ok := true) rfl 5 rfl rfl
theorem d_85_89 {B : zeB} {im : Nat → Nat → Int32} {lm : Nat → Nat → Int64} (l1 : Int32) (l2 : Int32)  : zeRun 85 89 [some (.ref 16), some (.int l1), some (.int l2)] [] (zk B im lm) = zeBh 85 95 [some (.ref 16), some (.int l1), some (.int l2)] [] (zeRun 78 0 [some (.ref 16), some (.int l2), some (.int l1), none, none] [] (zk B im lm)) := ze_call (ok := true) rfl 4 rfl rfl rfl
theorem d_85_95 {B : zeB} {im : Nat → Nat → Int32} {lm : Nat → Nat → Int64} (o1 : Option Value) (l2 : Int32)  : zeRun 85 95 [some (.ref 16), o1, some (.int l2)] [] (zk B im lm) = zeRun 85 167 [some (.ref 16), o1, some (.int l2)] [] (zk B im lm) := ze_go (ok := true) rfl 1 rfl rfl
theorem d_85_98 {B : zeB} {im : Nat → Nat → Int32} {lm : Nat → Nat → Int64} (l1 : Int32) (l2 : Int32)  : zeRun 85 98 [some (.ref 16), some (.int l1), some (.int l2)] [] (zk B im lm) = if (im 17 0) = 3 then zeRun 85 109 [some (.ref 16), some (.int l1), some (.int l2)] [] (zk B im lm) else zeRun 85 161 [some (.ref 16), some (.int l1), some (.int l2)] [] (zk B im lm) := ze_if (ok := true) rfl 5 rfl rfl
theorem d_85_109 {B : zeB} {im : Nat → Nat → Int32} {lm : Nat → Nat → Int64} (l1 : Int32) (l2 : Int32)  : zeRun 85 109 [some (.ref 16), some (.int l1), some (.int l2)] [] (zk B im lm) = if l1 = 0 then zeRun 85 146 [some (.ref 16), some (.int l1), some (.int l2)] [.int (im 19 3), .int (im 19 0), .int 2, .int l2, .ref 26] (zk B im lm) else zeRun 85 142 [some (.ref 16), some (.int l1), some (.int l2)] [.int (im 19 3), .int (im 19 0), .int 2, .int l2, .ref 26] (zk B im lm) := ze_if (ok := true) rfl 15 rfl rfl
theorem d_85_146 {B : zeB} {im : Nat → Nat → Int32} {lm : Nat → Nat → Int64} (o1 : Option Value) (l2 : Int32) (s1 : Int32) (s2 : Int32) (s3 : Int32) (s4 : Int32)  : zeRun 85 146 [some (.ref 16), o1, some (.int l2)] [.int s4, .int s3, .int s2, .int s1, .ref 26] (zk B im lm) = zeRun 85 147 [some (.ref 16), o1, some (.int l2)] [.int 0, .int s4, .int s3, .int s2, .int s1, .ref 26] (zk B im lm) := ze_go (ok := true) rfl 1 rfl rfl
theorem d_85_142 {B : zeB} {im : Nat → Nat → Int32} {lm : Nat → Nat → Int64} (o1 : Option Value) (l2 : Int32) (s1 : Int32) (s2 : Int32) (s3 : Int32) (s4 : Int32)  : zeRun 85 142 [some (.ref 16), o1, some (.int l2)] [.int s4, .int s3, .int s2, .int s1, .ref 26] (zk B im lm) = zeRun 85 147 [some (.ref 16), o1, some (.int l2)] [.int 1, .int s4, .int s3, .int s2, .int s1, .ref 26] (zk B im lm) := ze_go (ok := true) rfl 2 rfl rfl
theorem d_85_161 {B : zeB} {im : Nat → Nat → Int32} {lm : Nat → Nat → Int64} (l1 : Int32) (l2 : Int32)  : zeRun 85 161 [some (.ref 16), some (.int l1), some (.int l2)] [] (zk B im lm) = zeBh 85 167 [some (.ref 16), some (.int l1), some (.int l2)] [] (zeRun 84 0 [some (.ref 16), some (.int l2), some (.int l1)] [] (zk B im lm)) := ze_call (ok := true) rfl 4 rfl rfl rfl
theorem d_85_71 {B : zeB} {im : Nat → Nat → Int32} {lm : Nat → Nat → Int64} (o1 : Option Value) (o2 : Option Value)  : zeRun 85 71 [some (.ref 16), o1, o2] [] (zk B im lm) = zeBh 85 77 [some (.ref 16), o1, o2] [] (zeRun 17 0 [some (.ref 16), some (.int 7)] [] (zk B im lm)) := ze_call (ok := true) rfl 3 rfl rfl rfl
theorem d_85_77 {B : zeB} {im : Nat → Nat → Int32} {lm : Nat → Nat → Int64} (o0 : Option Value) (o1 : Option Value) (o2 : Option Value) (s0 : Int32)  : zeRun 85 77 [o0, o1, o2] [.int s0] (zk B im lm) = some (some (.int s0), (zk B im lm)) := ze_ret (ok := true) rfl 1 rfl rfl
theorem d_85_147 {B : zeB} {im : Nat → Nat → Int32} {lm : Nat → Nat → Int64} (o1 : Option Value) (l2 : Int32) (s1 : Int32) (s2 : Int32) (s3 : Int32) (s4 : Int32) (s5 : Int32)  : zeRun 85 147 [some (.ref 16), o1, some (.int l2)] [.int s5, .int s4, .int s3, .int s2, .int s1, .ref 26] (zk B im lm) = zeBh 85 150 [some (.ref 16), o1, some (.int l2)] [] (zeRun 71 0 [some (.ref 26), some (.int s1), some (.int s2), some (.int s3), some (.int s4), some (.int s5)] [] (zk B im lm)) := ze_call (ok := true) rfl 1 rfl rfl rfl
theorem d_85_150 {B : zeB} {im : Nat → Nat → Int32} {lm : Nat → Nat → Int64} (o1 : Option Value) (l2 : Int32)  : zeRun 85 150 [some (.ref 16), o1, some (.int l2)] [] (zk B im lm) = zeRun 85 167 [some (.ref 16), o1, some (.int l2)] [] (zk B (zeU2 im 17 0 0) lm) := ze_go (ok := true) rfl 5 rfl rfl
theorem d_85_167 {B : zeB} {im : Nat → Nat → Int32} {lm : Nat → Nat → Int64} (o1 : Option Value) (l2 : Int32)  : zeRun 85 167 [some (.ref 16), o1, some (.int l2)] [] (zk B im lm) = zeBh 85 172 [some (.ref 16), o1, some (.int l2)] [] (zeRun 77 0 [some (.ref 16), some (.int l2)] [] (zk B im lm)) := ze_call (ok := true) rfl 3 rfl rfl rfl
theorem d_85_172 {B : zeB} {im : Nat → Nat → Int32} {lm : Nat → Nat → Int64} (o0 : Option Value) (o1 : Option Value) (o2 : Option Value) (s0 : Int32)  : zeRun 85 172 [o0, o1, o2] [.int s0] (zk B im lm) = some (some (.int s0), (zk B im lm)) := ze_ret (ok := true) rfl 1 rfl rfl
def J_85_167  (l2 : Int32) (im : zI) (lm : zJ) : zR :=
    zBd (m_77 l2 im lm) fun v1 im1 lm1 =>
    some (v1, im1, lm1)
theorem J_85_167_ok {B : zeB} (l2 : Int32) (o1 : Option Value) (im : zI) (lm : zJ) : zL B 1 (J_85_167  l2 im lm) (zeRun 85 167 [some (.ref 16), o1, some (.int l2)] [] (zk B im lm)) := by
  unfold J_85_167
  refine zL_bd (d_85_167 _ _) (m_77_ok _ _ _) fun v1 im1 lm1 => ?_
  exact zL_ret (d_85_172 _ _ _ _)
def J_85_147  (l2 : Int32) (s1 : Int32) (s2 : Int32) (s3 : Int32) (s4 : Int32) (s5 : Int32) (im : zI) (lm : zJ) : zR :=
    zBd (m_71 s1 s2 s3 s4 s5 im lm) fun _ im1 lm1 =>
    J_85_167   l2 (zeU2 im1 17 0 0) lm1
theorem J_85_147_ok {B : zeB} (l2 : Int32) (s1 : Int32) (s2 : Int32) (s3 : Int32) (s4 : Int32) (s5 : Int32) (o1 : Option Value) (im : zI) (lm : zJ) : zL B 1 (J_85_147  l2 s1 s2 s3 s4 s5 im lm) (zeRun 85 147 [some (.ref 16), o1, some (.int l2)] [.int s5, .int s4, .int s3, .int s2, .int s1, .ref 26] (zk B im lm)) := by
  unfold J_85_147
  refine zL_bdv (d_85_147 _ _ _ _ _ _ _) (m_71_ok _ _ _ _ _ _ _) fun _ im1 lm1 => ?_
  refine zL_eq (d_85_150 _ _) ?_
  exact J_85_167_ok   _ _ _ _
def J_85_39  (l1 : Int32) (im : zI) (lm : zJ) : zR :=
    zBd (m_8  im lm) fun v1 im1 lm1 =>
    if (if v1 < 0 then 0 else if (im1 17 1) ≤ v1 then 0 else 1 : Int32) = 0 then
      zBd (m_17 4 im1 lm1) fun v3 im3 lm3 =>
      some (v3, im3, lm3)
    else
      if (if (im1 26 0) < 60 then 0 else 1 : Int32) = 0 then
        if (im1 17 0) = 1 then
          zBd (m_78 v1 l1 im1 lm1) fun _ im5 lm5 =>
          J_85_167   v1 im5 lm5
        else
          if (im1 17 0) = 3 then
            J_85_147   v1 v1 2 (im1 19 0) (im1 19 3) (if l1 = 0 then 0 else 1) im1 lm1
          else
            zBd (m_84 v1 l1 im1 lm1) fun _ im6 lm6 =>
            J_85_167   v1 im6 lm6
      else
        zBd (m_17 7 im1 lm1) fun v7 im7 lm7 =>
        some (v7, im7, lm7)
theorem J_85_39_ok {B : zeB} (l1 : Int32) (o2 : Option Value) (im : zI) (lm : zJ) : zL B 1 (J_85_39  l1 im lm) (zeRun 85 39 [some (.ref 16), some (.int l1), o2] [] (zk B im lm)) := by
  unfold J_85_39
  refine zL_bd (d_85_39 _ _) (m_8_ok _ _) fun v1 im1 lm1 => ?_
  refine zL_bdp (e := (if v1 < 0 then 0 else if (im1 17 1) ≤ v1 then 0 else 1 : Int32)) (d_85_43 _ _ _) (m_38_ok _ _ _) ?_
  refine zL_if (d_85_49 _ _ _) (fun h => ?_) (fun h => ?_)
  · skip
    refine zL_bd (d_85_52 _ _) (m_17_ok _ _ _) fun v3 im3 lm3 => ?_
    exact zL_ret (d_85_57 _ _ _ _)
  · skip
    refine zL_bdp (e := (if (im1 26 0) < 60 then 0 else 1 : Int32)) (d_85_58 _ _) (m_70_ok _ _) ?_
    refine zL_if (d_85_68 _ _ _) (fun h => ?_) (fun h => ?_)
    · skip
      refine zL_if (d_85_78 _ _) (fun h => ?_) (fun h => ?_)
      · skip
        refine zL_bdv (d_85_89 _ _) (m_78_ok _ _ _ _) fun _ im5 lm5 => ?_
        refine zL_eq (d_85_95 _ _) ?_
        exact J_85_167_ok   _ _ _ _
      · skip
        refine zL_if (d_85_98 _ _) (fun h => ?_) (fun h => ?_)
        · skip
          refine zL_ifm (d_85_109 _ _) (fun h => ?_) (fun h => ?_)
          · repeat rw [if_pos h]
            refine zL_eq (d_85_146 _ _ _ _ _ _) ?_
            exact J_85_147_ok   _ _ _ _ _ _ _ _ _
          · repeat rw [if_neg h]
            refine zL_eq (d_85_142 _ _ _ _ _ _) ?_
            exact J_85_147_ok   _ _ _ _ _ _ _ _ _
        · skip
          refine zL_bdv (d_85_161 _ _) (m_84_ok _ _ _ _) fun _ im6 lm6 => ?_
          exact J_85_167_ok   _ _ _ _
    · skip
      refine zL_bd (d_85_71 _ _) (m_17_ok _ _ _) fun v7 im7 lm7 => ?_
      exact zL_ret (d_85_77 _ _ _ _)
def m_85 (l1 : Int32) (im : zI) (lm : zJ) : zR :=
    if (im 17 0) = 1 then
      J_85_39   l1 im lm
    else
      if (im 17 0) = 3 then
        J_85_39   l1 im lm
      else
        if (im 17 0) = 5 then
          J_85_39   l1 im lm
        else
          zBd (m_17 1 im lm) fun v1 im1 lm1 =>
          some (v1, im1, lm1)
theorem m_85_ok {B : zeB} (l1 : Int32) (im : zI) (lm : zJ) : zL B 1 (m_85 l1 im lm) (zeRun 85 0 [some (.ref 16), some (.int l1), none] [] (zk B im lm)) := by
  unfold m_85
  refine zL_if (d_85_0 _ _) (fun h => ?_) (fun h => ?_)
  · skip
    exact J_85_39_ok   _ _ _ _
  · skip
    refine zL_if (d_85_11 _ _) (fun h => ?_) (fun h => ?_)
    · skip
      exact J_85_39_ok   _ _ _ _
    · skip
      refine zL_if (d_85_22 _ _) (fun h => ?_) (fun h => ?_)
      · skip
        exact J_85_39_ok   _ _ _ _
      · skip
        refine zL_bd (d_85_33 _ _) (m_17_ok _ _ _) fun v1 im1 lm1 => ?_
        exact zL_ret (d_85_38 _ _ _ _)
/-! X7_answer -/
theorem d_86_0 {B : zeB} {im : Nat → Nat → Int32} {lm : Nat → Nat → Int64} (l1 : Int32)  : zeRun 86 0 [some (.ref 16), some (.int l1)] [] (zk B im lm) = zeBh 86 11 [some (.ref 16), some (.int l1)] [] (zeRun 15 0 [some (.ref 42), some (.ref 17)] [] (zk B im lm)) := ze_call (ok := true) rfl 5 rfl rfl rfl
theorem d_86_11 {B : zeB} {im : Nat → Nat → Int32} {lm : Nat → Nat → Int64} (l1 : Int32)  : zeRun 86 11 [some (.ref 16), some (.int l1)] [] (zk B im lm) = zeBh 86 17 [some (.ref 16), some (.int l1)] [.ref 16] (zeRun 85 0 [some (.ref 16), some (.int l1), none] [] (zk B im lm)) := ze_call (ok := true) rfl 4 rfl rfl rfl
theorem d_86_17 {B : zeB} {im : Nat → Nat → Int32} {lm : Nat → Nat → Int64} (o0 : Option Value) (o1 : Option Value) (s1 : Int32)  : zeRun 86 17 [o0, o1] [.int s1, .ref 16] (zk B im lm) = zeBh 86 20 [o0, o1] [] (zeRun 21 0 [some (.ref 16), some (.int s1)] [] (zk B im lm)) := ze_call (ok := true) rfl 1 rfl rfl rfl
theorem d_86_20 {B : zeB} {im : Nat → Nat → Int32} {lm : Nat → Nat → Int64} (o0 : Option Value) (o1 : Option Value) (s0 : Int32)  : zeRun 86 20 [o0, o1] [.int s0] (zk B im lm) = some (some (.int s0), (zk B im lm)) := ze_ret (ok := true) rfl 1 rfl rfl
def m_86 (l1 : Int32) (im : zI) (lm : zJ) : zR :=
    zBd (m_15  im lm) fun _ im1 lm1 =>
    zBd (m_85 l1 im1 lm1) fun v2 im2 lm2 =>
    zBd (m_21 v2 im2 lm2) fun v3 im3 lm3 =>
    some (v3, im3, lm3)
theorem m_86_ok {B : zeB} (l1 : Int32) (im : zI) (lm : zJ) : zL B 1 (m_86 l1 im lm) (zeRun 86 0 [some (.ref 16), some (.int l1)] [] (zk B im lm)) := by
  unfold m_86
  refine zL_bdv (d_86_0 _) (m_15_ok _ _) fun _ im1 lm1 => ?_
  refine zL_bd (d_86_11 _) (m_85_ok _ _ _) fun v2 im2 lm2 => ?_
  refine zL_bd (d_86_17 _ _ _) (m_21_ok _ _ _) fun v3 im3 lm3 => ?_
  exact zL_ret (d_86_20 _ _ _)
/-! X7_isEntry -/
theorem d_118_0 {B : zeB} {im : Nat → Nat → Int32} {lm : Nat → Nat → Int64} (l1 : Int32)  : zeRun 118 0 [some (.ref 16), some (.int l1)] [] (zk B im lm) = if l1 < 0 then zeRun 118 22 [some (.ref 16), some (.int l1)] [] (zk B im lm) else zeRun 118 4 [some (.ref 16), some (.int l1)] [] (zk B im lm) := ze_if (ok := true) rfl 2 rfl rfl
theorem d_118_22 {B : zeB} {im : Nat → Nat → Int32} {lm : Nat → Nat → Int64} (o0 : Option Value) (o1 : Option Value)  : zeRun 118 22 [o0, o1] [] (zk B im lm) = some (some (.int 0), (zk B im lm)) := ze_ret (ok := true) rfl 2 rfl rfl
theorem d_118_4 {B : zeB} {im : Nat → Nat → Int32} {lm : Nat → Nat → Int64} (l1 : Int32)  : zeRun 118 4 [some (.ref 16), some (.int l1)] [] (zk B im lm) = if (im 26 0) ≤ l1 then zeRun 118 22 [some (.ref 16), some (.int l1)] [] (zk B im lm) else zeRun 118 18 [some (.ref 16), some (.int l1)] [] (zk B im lm) := ze_if (ok := true) rfl 6 rfl rfl
theorem d_118_18 {B : zeB} {im : Nat → Nat → Int32} {lm : Nat → Nat → Int64} (o0 : Option Value) (o1 : Option Value)  : zeRun 118 18 [o0, o1] [] (zk B im lm) = some (some (.int 1), (zk B im lm)) := ze_ret (ok := true) rfl 3 rfl rfl
def m_118 (l1 : Int32) (im : zI) (lm : zJ) : zR :=
    some (if l1 < 0 then 0 else if (im 26 0) ≤ l1 then 0 else 1, im, lm)
theorem m_118_ok {B : zeB} (l1 : Int32) (im : zI) (lm : zJ) : zL B 1 (m_118 l1 im lm) (zeRun 118 0 [some (.ref 16), some (.int l1)] [] (zk B im lm)) := by
  unfold m_118
  refine zL_ifm (d_118_0 _) (fun h => ?_) (fun h => ?_)
  · repeat rw [if_pos h]
    exact zL_ret (d_118_22 _ _)
  · repeat rw [if_neg h]
    refine zL_ifm (d_118_4 _) (fun h => ?_) (fun h => ?_)
    · repeat rw [if_pos h]
      exact zL_ret (d_118_22 _ _)
    · repeat rw [if_neg h]
      exact zL_ret (d_118_18 _ _)
/-! X7_entry -/
theorem d_172_0 {B : zeB} {im : Nat → Nat → Int32} {lm : Nat → Nat → Int64} (l1 : Int32) (l2 : Int32)  : zeRun 172 0 [some (.ref 16), some (.int l1), some (.int l2)] [] (zk B im lm) = zeBh 172 5 [some (.ref 16), some (.int l1), some (.int l2)] [] (zeRun 118 0 [some (.ref 16), some (.int l1)] [] (zk B im lm)) := ze_call (ok := true) rfl 3 rfl rfl rfl
theorem d_172_5 {B : zeB} {im : Nat → Nat → Int32} {lm : Nat → Nat → Int64} (l1 : Int32) (l2 : Int32) (s0 : Int32)  : zeRun 172 5 [some (.ref 16), some (.int l1), some (.int l2)] [.int s0] (zk B im lm) = if s0 = 0 then zeRun 172 8 [some (.ref 16), some (.int l1), some (.int l2)] [] (zk B im lm) else zeRun 172 11 [some (.ref 16), some (.int l1), some (.int l2)] [] (zk B im lm) := ze_if (ok := true) rfl 1 rfl rfl
theorem d_172_8 {B : zeB} {im : Nat → Nat → Int32} {lm : Nat → Nat → Int64} (o0 : Option Value) (o1 : Option Value) (o2 : Option Value)  : zeRun 172 8 [o0, o1, o2] [] (zk B im lm) = some (some (.int (-10000001)), (zk B im lm)) := ze_ret (ok := true) rfl 2 rfl rfl
theorem d_172_11 {B : zeB} {im : Nat → Nat → Int32} {lm : Nat → Nat → Int64} (l1 : Int32) (l2 : Int32)  : zeRun 172 11 [some (.ref 16), some (.int l1), some (.int l2)] [] (zk B im lm) = zeRun 172 (zeSw l2 163 [(0, 60), (1, 73), (2, 86), (3, 99), (4, 112), (5, 122), (6, 135), (7, 145)]) [some (.ref 16), some (.int l1), some (.int l2)] [] (zk B im lm) := ze_go (ok := true) rfl 2 rfl rfl
theorem d_172_60 {B : zeB} {im : Nat → Nat → Int32} {lm : Nat → Nat → Int64} (l1 : Int32) (o2 : Option Value) (c0 : zeInb l1 60 = true) : zeRun 172 60 [some (.ref 16), some (.int l1), o2] [] (zk B im lm) = some (some (.int (im 27 (Int32.toNatClampNeg l1))), (zk B im lm)) := ze_ret (ok := (zeInb l1 60 && true)) rfl 7 rfl (zeA2 c0 rfl)
theorem d_172_73 {B : zeB} {im : Nat → Nat → Int32} {lm : Nat → Nat → Int64} (l1 : Int32) (o2 : Option Value) (c0 : zeInb l1 60 = true) : zeRun 172 73 [some (.ref 16), some (.int l1), o2] [] (zk B im lm) = some (some (.int (im 28 (Int32.toNatClampNeg l1))), (zk B im lm)) := ze_ret (ok := (zeInb l1 60 && true)) rfl 7 rfl (zeA2 c0 rfl)
theorem d_172_86 {B : zeB} {im : Nat → Nat → Int32} {lm : Nat → Nat → Int64} (l1 : Int32) (o2 : Option Value) (c0 : zeInb l1 60 = true) : zeRun 172 86 [some (.ref 16), some (.int l1), o2] [] (zk B im lm) = some (some (.int (im 29 (Int32.toNatClampNeg l1))), (zk B im lm)) := ze_ret (ok := (zeInb l1 60 && true)) rfl 7 rfl (zeA2 c0 rfl)
theorem d_172_99 {B : zeB} {im : Nat → Nat → Int32} {lm : Nat → Nat → Int64} (l1 : Int32) (o2 : Option Value) (c0 : zeInb l1 60 = true) : zeRun 172 99 [some (.ref 16), some (.int l1), o2] [] (zk B im lm) = some (some (.int (im 30 (Int32.toNatClampNeg l1))), (zk B im lm)) := ze_ret (ok := (zeInb l1 60 && true)) rfl 7 rfl (zeA2 c0 rfl)
theorem d_172_112 {B : zeB} {im : Nat → Nat → Int32} {lm : Nat → Nat → Int64} (l1 : Int32) (o2 : Option Value) (c0 : zeInb l1 60 = true) : zeRun 172 112 [some (.ref 16), some (.int l1), o2] [] (zk B im lm) = some (some (.int (im 38 (Int32.toNatClampNeg l1))), (zk B im lm)) := ze_ret (ok := (zeInb l1 60 && true)) rfl 6 rfl (zeA2 c0 rfl)
theorem d_172_122 {B : zeB} {im : Nat → Nat → Int32} {lm : Nat → Nat → Int64} (l1 : Int32) (o2 : Option Value) (c0 : zeInb l1 60 = true) : zeRun 172 122 [some (.ref 16), some (.int l1), o2] [] (zk B im lm) = some (some (.int (im 31 (Int32.toNatClampNeg l1))), (zk B im lm)) := ze_ret (ok := (zeInb l1 60 && true)) rfl 7 rfl (zeA2 c0 rfl)
theorem d_172_135 {B : zeB} {im : Nat → Nat → Int32} {lm : Nat → Nat → Int64} (l1 : Int32) (o2 : Option Value) (c0 : zeInb l1 60 = true) : zeRun 172 135 [some (.ref 16), some (.int l1), o2] [] (zk B im lm) = some (some (.int (im 39 (Int32.toNatClampNeg l1))), (zk B im lm)) := ze_ret (ok := (zeInb l1 60 && true)) rfl 6 rfl (zeA2 c0 rfl)
theorem d_172_145 {B : zeB} {im : Nat → Nat → Int32} {lm : Nat → Nat → Int64} (l1 : Int32) (o2 : Option Value) (c0 : zeInb l1 60 = true) : zeRun 172 145 [some (.ref 16), some (.int l1), o2] [] (zk B im lm) = if (im 40 (Int32.toNatClampNeg l1)) = 0 then zeRun 172 161 [some (.ref 16), some (.int l1), o2] [] (zk B im lm) else zeRun 172 157 [some (.ref 16), some (.int l1), o2] [] (zk B im lm) := ze_if (ok := (zeInb l1 60 && true)) rfl 6 rfl (zeA2 c0 rfl)
theorem d_172_161 {B : zeB} {im : Nat → Nat → Int32} {lm : Nat → Nat → Int64} (o0 : Option Value) (o1 : Option Value) (o2 : Option Value)  : zeRun 172 161 [o0, o1, o2] [] (zk B im lm) = some (some (.int 0), (zk B im lm)) := ze_ret (ok := true) rfl 2 rfl rfl
theorem d_172_157 {B : zeB} {im : Nat → Nat → Int32} {lm : Nat → Nat → Int64} (o0 : Option Value) (o1 : Option Value) (o2 : Option Value)  : zeRun 172 157 [o0, o1, o2] [] (zk B im lm) = some (some (.int 1), (zk B im lm)) := ze_ret (ok := true) rfl 3 rfl rfl
theorem d_172_163 {B : zeB} {im : Nat → Nat → Int32} {lm : Nat → Nat → Int64} (o0 : Option Value) (o1 : Option Value) (o2 : Option Value)  : zeRun 172 163 [o0, o1, o2] [] (zk B im lm) = some (some (.int (-10000002)), (zk B im lm)) := ze_ret (ok := true) rfl 2 rfl rfl
def m_172 (l1 : Int32) (l2 : Int32) (im : zI) (lm : zJ) : zR :=
    zCk (if (if l1 < 0 then 0 else if (im 26 0) ≤ l1 then 0 else 1 : Int32) = 0 then true else if l2 = 0 then zeInb l1 60 else if l2 = 1 then zeInb l1 60 else if l2 = 2 then zeInb l1 60 else if l2 = 3 then zeInb l1 60 else if l2 = 4 then zeInb l1 60 else if l2 = 5 then zeInb l1 60 else if l2 = 6 then zeInb l1 60 else if l2 = 7 then zeInb l1 60 else true) <|
    some (if (if l1 < 0 then 0 else if (im 26 0) ≤ l1 then 0 else 1 : Int32) = 0 then (-10000001) else if l2 = 0 then (im 27 (Int32.toNatClampNeg l1)) else if l2 = 1 then (im 28 (Int32.toNatClampNeg l1)) else if l2 = 2 then (im 29 (Int32.toNatClampNeg l1)) else if l2 = 3 then (im 30 (Int32.toNatClampNeg l1)) else if l2 = 4 then (im 38 (Int32.toNatClampNeg l1)) else if l2 = 5 then (im 31 (Int32.toNatClampNeg l1)) else if l2 = 6 then (im 39 (Int32.toNatClampNeg l1)) else if l2 = 7 then if (im 40 (Int32.toNatClampNeg l1)) = 0 then 0 else 1 else (-10000002), im, lm)
theorem m_172_ok {B : zeB} (l1 : Int32) (l2 : Int32) (im : zI) (lm : zJ) : zL B 1 (m_172 l1 l2 im lm) (zeRun 172 0 [some (.ref 16), some (.int l1), some (.int l2)] [] (zk B im lm)) := by
  unfold m_172
  refine zL_bdp (e := (if l1 < 0 then 0 else if (im 26 0) ≤ l1 then 0 else 1 : Int32)) (d_172_0 _ _) (m_118_ok _ _ _) ?_
  refine zL_ifm (d_172_5 _ _ _) (fun h => ?_) (fun h => ?_)
  · repeat rw [if_pos h]
    refine zL_ckt ?_
    exact zL_ret (d_172_8 _ _ _)
  · repeat rw [if_neg h]
    refine zL_eq (d_172_11 _ _) ?_
    refine zL_swm (fun h => ?_) (fun h => ?_)
    · repeat rw [if_pos h]
      refine zL_ck fun c1 => ?_
      exact zL_ret (d_172_60 _ _ c1)
    repeat rw [if_neg h]
    refine zL_swm (fun h => ?_) (fun h => ?_)
    · repeat rw [if_pos h]
      refine zL_ck fun c2 => ?_
      exact zL_ret (d_172_73 _ _ c2)
    repeat rw [if_neg h]
    refine zL_swm (fun h => ?_) (fun h => ?_)
    · repeat rw [if_pos h]
      refine zL_ck fun c3 => ?_
      exact zL_ret (d_172_86 _ _ c3)
    repeat rw [if_neg h]
    refine zL_swm (fun h => ?_) (fun h => ?_)
    · repeat rw [if_pos h]
      refine zL_ck fun c4 => ?_
      exact zL_ret (d_172_99 _ _ c4)
    repeat rw [if_neg h]
    refine zL_swm (fun h => ?_) (fun h => ?_)
    · repeat rw [if_pos h]
      refine zL_ck fun c5 => ?_
      exact zL_ret (d_172_112 _ _ c5)
    repeat rw [if_neg h]
    refine zL_swm (fun h => ?_) (fun h => ?_)
    · repeat rw [if_pos h]
      refine zL_ck fun c6 => ?_
      exact zL_ret (d_172_122 _ _ c6)
    repeat rw [if_neg h]
    refine zL_swm (fun h => ?_) (fun h => ?_)
    · repeat rw [if_pos h]
      refine zL_ck fun c7 => ?_
      exact zL_ret (d_172_135 _ _ c7)
    repeat rw [if_neg h]
    refine zL_swm (fun h => ?_) (fun h => ?_)
    · repeat rw [if_pos h]
      refine zL_ck fun c8 => ?_
      refine zL_ifm (d_172_145 _ _ c8) (fun h => ?_) (fun h => ?_)
      · repeat rw [if_pos h]
        exact zL_ret (d_172_161 _ _ _)
      · repeat rw [if_neg h]
        exact zL_ret (d_172_157 _ _ _)
    repeat rw [if_neg h]
    refine zL_swd ?_
    refine zL_ckt ?_
    exact zL_ret (d_172_163 _ _ _)
/-! X7_doWager -/
theorem d_97_0 {B : zeB} {im : Nat → Nat → Int32} {lm : Nat → Nat → Int64} (l1 : Int32) (o2 : Option Value)  : zeRun 97 0 [some (.ref 16), some (.int l1), o2] [] (zk B im lm) = if l1 < 0 then zeRun 97 11 [some (.ref 16), some (.int l1), o2] [] (zk B im lm) else zeRun 97 4 [some (.ref 16), some (.int l1), o2] [] (zk B im lm) := ze_if (ok := true) rfl 2 rfl rfl
theorem d_97_11 {B : zeB} {im : Nat → Nat → Int32} {lm : Nat → Nat → Int64} (o0 : Option Value) (o1 : Option Value) (o2 : Option Value)  : zeRun 97 11 [o0, o1, o2] [] (zk B im lm) = some (some (.int (-10000002)), (zk B im lm)) := ze_ret (ok := true) rfl 2 rfl rfl
theorem d_97_4 {B : zeB} {im : Nat → Nat → Int32} {lm : Nat → Nat → Int64} (l1 : Int32) (o2 : Option Value)  : zeRun 97 4 [some (.ref 16), some (.int l1), o2] [] (zk B im lm) = if l1 ≤ 100000 then zeRun 97 14 [some (.ref 16), some (.int l1), o2] [] (zk B im lm) else zeRun 97 11 [some (.ref 16), some (.int l1), o2] [] (zk B im lm) := ze_if (ok := true) rfl 3 rfl rfl
theorem d_97_14 {B : zeB} {im : Nat → Nat → Int32} {lm : Nat → Nat → Int64} (l1 : Int32) (o2 : Option Value)  : zeRun 97 14 [some (.ref 16), some (.int l1), o2] [] (zk B im lm) = if (im 17 0) = 2 then zeRun 97 31 [some (.ref 16), some (.int l1), o2] [] (zk B im lm) else zeRun 97 25 [some (.ref 16), some (.int l1), o2] [] (zk B im lm) := ze_if (ok := true) rfl 5 rfl rfl
theorem d_97_31 {B : zeB} {im : Nat → Nat → Int32} {lm : Nat → Nat → Int64} (l1 : Int32) (o2 : Option Value)  : zeRun 97 31 [some (.ref 16), some (.int l1), o2] [] (zk B im lm) = zeBh 97 45 [some (.ref 16), some (.int l1), o2] [] (zeRun 137 0 [some (.ref 32), some (.int (im 32 0))] [] (zk B im lm)) := ze_call (ok := true) rfl 6 rfl rfl rfl
theorem d_97_45 {B : zeB} {im : Nat → Nat → Int32} {lm : Nat → Nat → Int64} (l1 : Int32) (o2 : Option Value) (s0 : Int32)  : zeRun 97 45 [some (.ref 16), some (.int l1), o2] [.int s0] (zk B im lm) = if l1 ≤ (if s0 < 500 then 500 else s0) then zeRun 97 63 [some (.ref 16), some (.int l1), some (.int (if s0 < 500 then 500 else s0))] [] (zk B im lm) else zeRun 97 57 [some (.ref 16), some (.int l1), some (.int (if s0 < 500 then 500 else s0))] [] (zk B im lm) := ze_if (ok := true) rfl 6 rfl rfl
theorem d_97_63 {B : zeB} {im : Nat → Nat → Int32} {lm : Nat → Nat → Int64} (l1 : Int32) (l2 : Int32)  : zeRun 97 63 [some (.ref 16), some (.int l1), some (.int l2)] [] (zk B im lm) = some (some (.int l2), (zk B (zeU2 (zeU2 im 19 3 l1) 17 0 3) lm)) := ze_ret (ok := true) rfl 11 rfl rfl
theorem d_97_57 {B : zeB} {im : Nat → Nat → Int32} {lm : Nat → Nat → Int64} (o1 : Option Value) (o2 : Option Value)  : zeRun 97 57 [some (.ref 16), o1, o2] [] (zk B im lm) = zeBh 97 62 [some (.ref 16), o1, o2] [] (zeRun 17 0 [some (.ref 16), some (.int 5)] [] (zk B im lm)) := ze_call (ok := true) rfl 3 rfl rfl rfl
theorem d_97_62 {B : zeB} {im : Nat → Nat → Int32} {lm : Nat → Nat → Int64} (o0 : Option Value) (o1 : Option Value) (o2 : Option Value) (s0 : Int32)  : zeRun 97 62 [o0, o1, o2] [.int s0] (zk B im lm) = some (some (.int s0), (zk B im lm)) := ze_ret (ok := true) rfl 1 rfl rfl
theorem d_97_25 {B : zeB} {im : Nat → Nat → Int32} {lm : Nat → Nat → Int64} (o1 : Option Value) (o2 : Option Value)  : zeRun 97 25 [some (.ref 16), o1, o2] [] (zk B im lm) = zeBh 97 30 [some (.ref 16), o1, o2] [] (zeRun 17 0 [some (.ref 16), some (.int 1)] [] (zk B im lm)) := ze_call (ok := true) rfl 3 rfl rfl rfl
theorem d_97_30 {B : zeB} {im : Nat → Nat → Int32} {lm : Nat → Nat → Int64} (o0 : Option Value) (o1 : Option Value) (o2 : Option Value) (s0 : Int32)  : zeRun 97 30 [o0, o1, o2] [.int s0] (zk B im lm) = some (some (.int s0), (zk B im lm)) := ze_ret (ok := true) rfl 1 rfl rfl
def m_97 (l1 : Int32) (im : zI) (lm : zJ) : zR :=
    if l1 < 0 then
      some ((-10000002), im, lm)
    else
      if l1 ≤ 100000 then
        if (im 17 0) = 2 then
          zBd (m_137 (im 32 0) im lm) fun v1 im1 lm1 =>
          if l1 ≤ (if v1 < 500 then 500 else v1) then
            some ((if v1 < 500 then 500 else v1), (zeU2 (zeU2 im1 19 3 l1) 17 0 3), lm1)
          else
            zBd (m_17 5 im1 lm1) fun v2 im2 lm2 =>
            some (v2, im2, lm2)
        else
          zBd (m_17 1 im lm) fun v3 im3 lm3 =>
          some (v3, im3, lm3)
      else
        some ((-10000002), im, lm)
theorem m_97_ok {B : zeB} (l1 : Int32) (im : zI) (lm : zJ) : zL B 1 (m_97 l1 im lm) (zeRun 97 0 [some (.ref 16), some (.int l1), none] [] (zk B im lm)) := by
  unfold m_97
  refine zL_if (d_97_0 _ _) (fun h => ?_) (fun h => ?_)
  · skip
    exact zL_ret (d_97_11 _ _ _)
  · skip
    refine zL_if (d_97_4 _ _) (fun h => ?_) (fun h => ?_)
    · skip
      refine zL_if (d_97_14 _ _) (fun h => ?_) (fun h => ?_)
      · skip
        refine zL_bd (d_97_31 _ _) (m_137_ok _ _ _) fun v1 im1 lm1 => ?_
        refine zL_if (d_97_45 _ _ _) (fun h => ?_) (fun h => ?_)
        · skip
          exact zL_ret (d_97_63 _ _)
        · skip
          refine zL_bd (d_97_57 _ _) (m_17_ok _ _ _) fun v2 im2 lm2 => ?_
          exact zL_ret (d_97_62 _ _ _ _)
      · skip
        refine zL_bd (d_97_25 _ _) (m_17_ok _ _ _) fun v3 im3 lm3 => ?_
        exact zL_ret (d_97_30 _ _ _ _)
    · skip
      exact zL_ret (d_97_11 _ _ _)
/-! X7_wager -/
theorem d_98_0 {B : zeB} {im : Nat → Nat → Int32} {lm : Nat → Nat → Int64} (l1 : Int32)  : zeRun 98 0 [some (.ref 16), some (.int l1)] [] (zk B im lm) = zeBh 98 11 [some (.ref 16), some (.int l1)] [] (zeRun 15 0 [some (.ref 42), some (.ref 17)] [] (zk B im lm)) := ze_call (ok := true) rfl 5 rfl rfl rfl
theorem d_98_11 {B : zeB} {im : Nat → Nat → Int32} {lm : Nat → Nat → Int64} (l1 : Int32)  : zeRun 98 11 [some (.ref 16), some (.int l1)] [] (zk B im lm) = zeBh 98 17 [some (.ref 16), some (.int l1)] [.ref 16] (zeRun 97 0 [some (.ref 16), some (.int l1), none] [] (zk B im lm)) := ze_call (ok := true) rfl 4 rfl rfl rfl
theorem d_98_17 {B : zeB} {im : Nat → Nat → Int32} {lm : Nat → Nat → Int64} (o0 : Option Value) (o1 : Option Value) (s1 : Int32)  : zeRun 98 17 [o0, o1] [.int s1, .ref 16] (zk B im lm) = zeBh 98 20 [o0, o1] [] (zeRun 21 0 [some (.ref 16), some (.int s1)] [] (zk B im lm)) := ze_call (ok := true) rfl 1 rfl rfl rfl
theorem d_98_20 {B : zeB} {im : Nat → Nat → Int32} {lm : Nat → Nat → Int64} (o0 : Option Value) (o1 : Option Value) (s0 : Int32)  : zeRun 98 20 [o0, o1] [.int s0] (zk B im lm) = some (some (.int s0), (zk B im lm)) := ze_ret (ok := true) rfl 1 rfl rfl
def m_98 (l1 : Int32) (im : zI) (lm : zJ) : zR :=
    zBd (m_15  im lm) fun _ im1 lm1 =>
    zBd (m_97 l1 im1 lm1) fun v2 im2 lm2 =>
    zBd (m_21 v2 im2 lm2) fun v3 im3 lm3 =>
    some (v3, im3, lm3)
theorem m_98_ok {B : zeB} (l1 : Int32) (im : zI) (lm : zJ) : zL B 1 (m_98 l1 im lm) (zeRun 98 0 [some (.ref 16), some (.int l1)] [] (zk B im lm)) := by
  unfold m_98
  refine zL_bdv (d_98_0 _) (m_15_ok _ _) fun _ im1 lm1 => ?_
  refine zL_bd (d_98_11 _) (m_97_ok _ _ _) fun v2 im2 lm2 => ?_
  refine zL_bd (d_98_17 _ _ _) (m_21_ok _ _ _) fun v3 im3 lm3 => ?_
  exact zL_ret (d_98_20 _ _ _)
/-! X0_isWagerWanting -/
theorem d_107_0 {B : zeB} {im : Nat → Nat → Int32} {lm : Nat → Nat → Int64} (l1 : Int32) (c0 : zeInb l1 6 = true) : zeRun 107 0 [some (.ref 23), some (.int l1)] [] (zk B im lm) = if (im 24 (Int32.toNatClampNeg l1)) ≤ 0 then zeRun 107 24 [some (.ref 23), some (.int l1)] [] (zk B im lm) else zeRun 107 9 [some (.ref 23), some (.int l1)] [] (zk B im lm) := ze_if (ok := (zeInb l1 6 && true)) rfl 5 rfl (zeA2 c0 rfl)
theorem d_107_24 {B : zeB} {im : Nat → Nat → Int32} {lm : Nat → Nat → Int64} (o0 : Option Value) (o1 : Option Value)  : zeRun 107 24 [o0, o1] [] (zk B im lm) = some (some (.int 0), (zk B im lm)) := ze_ret (ok := true) rfl 2 rfl rfl
theorem d_107_9 {B : zeB} {im : Nat → Nat → Int32} {lm : Nat → Nat → Int64} (l1 : Int32) (c0 : zeInb l1 6 = true) : zeRun 107 9 [some (.ref 23), some (.int l1)] [] (zk B im lm) = if (im 25 (Int32.toNatClampNeg l1)) = (-10000005) then zeRun 107 20 [some (.ref 23), some (.int l1)] [] (zk B im lm) else zeRun 107 24 [some (.ref 23), some (.int l1)] [] (zk B im lm) := ze_if (ok := (zeInb l1 6 && true)) rfl 6 rfl (zeA2 c0 rfl)
theorem d_107_20 {B : zeB} {im : Nat → Nat → Int32} {lm : Nat → Nat → Int64} (o0 : Option Value) (o1 : Option Value)  : zeRun 107 20 [o0, o1] [] (zk B im lm) = some (some (.int 1), (zk B im lm)) := ze_ret (ok := true) rfl 3 rfl rfl
def m_107 (l1 : Int32) (im : zI) (lm : zJ) : zR :=
    zCk (zeInb l1 6) <|
    some (if (im 24 (Int32.toNatClampNeg l1)) ≤ 0 then 0 else if (im 25 (Int32.toNatClampNeg l1)) = (-10000005) then 1 else 0, im, lm)
theorem m_107_ok {B : zeB} (l1 : Int32) (im : zI) (lm : zJ) : zL B 1 (m_107 l1 im lm) (zeRun 107 0 [some (.ref 23), some (.int l1)] [] (zk B im lm)) := by
  unfold m_107
  refine zL_ck fun c1 => ?_
  refine zL_ifm (d_107_0 _ c1) (fun h => ?_) (fun h => ?_)
  · repeat rw [if_pos h]
    exact zL_ret (d_107_24 _ _)
  · repeat rw [if_neg h]
    refine zL_ifm (d_107_9 _ c1) (fun h => ?_) (fun h => ?_)
    · repeat rw [if_pos h]
      exact zL_ret (d_107_20 _ _)
    · repeat rw [if_neg h]
      exact zL_ret (d_107_24 _ _)
/-! X0_wagersWanting -/
theorem d_108_0 {B : zeB} {im : Nat → Nat → Int32} {lm : Nat → Nat → Int64} (o1 : Option Value) (o2 : Option Value)  : zeRun 108 0 [some (.ref 23), o1, o2] [] (zk B im lm) = zeRun 108 4 [some (.ref 23), some (.int 0), some (.int 0)] [] (zk B im lm) := ze_go (ok := true) rfl 4 rfl rfl
theorem d_108_4 {B : zeB} {im : Nat → Nat → Int32} {lm : Nat → Nat → Int64} (l1 : Int32) (l2 : Int32)  : zeRun 108 4 [some (.ref 23), some (.int l1), some (.int l2)] [] (zk B im lm) = if 6 ≤ l2 then zeRun 108 27 [some (.ref 23), some (.int l1), some (.int l2)] [] (zk B im lm) else zeRun 108 10 [some (.ref 23), some (.int l1), some (.int l2)] [] (zk B im lm) := ze_if (ok := true) rfl 3 rfl rfl
theorem d_108_27 {B : zeB} {im : Nat → Nat → Int32} {lm : Nat → Nat → Int64} (o0 : Option Value) (l1 : Int32) (o2 : Option Value)  : zeRun 108 27 [o0, some (.int l1), o2] [] (zk B im lm) = some (some (.int l1), (zk B im lm)) := ze_ret (ok := true) rfl 2 rfl rfl
theorem d_108_10 {B : zeB} {im : Nat → Nat → Int32} {lm : Nat → Nat → Int64} (l1 : Int32) (l2 : Int32)  : zeRun 108 10 [some (.ref 23), some (.int l1), some (.int l2)] [] (zk B im lm) = zeBh 108 15 [some (.ref 23), some (.int l1), some (.int l2)] [] (zeRun 107 0 [some (.ref 23), some (.int l2)] [] (zk B im lm)) := ze_call (ok := true) rfl 3 rfl rfl rfl
theorem d_108_15 {B : zeB} {im : Nat → Nat → Int32} {lm : Nat → Nat → Int64} (l1 : Int32) (l2 : Int32) (s0 : Int32)  : zeRun 108 15 [some (.ref 23), some (.int l1), some (.int l2)] [.int s0] (zk B im lm) = if s0 = 0 then zeRun 108 21 [some (.ref 23), some (.int l1), some (.int l2)] [] (zk B im lm) else zeRun 108 18 [some (.ref 23), some (.int l1), some (.int l2)] [] (zk B im lm) := ze_if (ok := true) rfl 1 rfl rfl
theorem d_108_21 {B : zeB} {im : Nat → Nat → Int32} {lm : Nat → Nat → Int64} (l1 : Int32) (l2 : Int32)  : zeRun 108 21 [some (.ref 23), some (.int l1), some (.int l2)] [] (zk B im lm) = zeRun 108 4 [some (.ref 23), some (.int l1), some (.int (l2 + 1))] [] (zk B im lm) := ze_go (ok := true) rfl 2 rfl rfl
theorem d_108_18 {B : zeB} {im : Nat → Nat → Int32} {lm : Nat → Nat → Int64} (l1 : Int32) (l2 : Int32)  : zeRun 108 18 [some (.ref 23), some (.int l1), some (.int l2)] [] (zk B im lm) = zeRun 108 4 [some (.ref 23), some (.int (l1 + 1)), some (.int (l2 + 1))] [] (zk B im lm) := ze_go (ok := true) rfl 3 rfl rfl
def F_108_4  : Nat → Int32 → Int32 → zI → zJ → zR
  | 0, _, _, _, _ => none
  | n + 1, l1, l2, im, lm =>
    if 6 ≤ l2 then
      some (l1, im, lm)
    else
      zBd (m_107 l2 im lm) fun v1 im1 lm1 =>
      F_108_4  n (if v1 = 0 then l1 else (l1 + 1)) (l2 + 1) im1 lm1
theorem F_108_4_ok {B : zeB} : ∀ (n : Nat) (l1 : Int32) (l2 : Int32)  (im : zI) (lm : zJ), zL B 1 (F_108_4  n l1 l2 im lm) (zeRun 108 4 [some (.ref 23), some (.int l1), some (.int l2)] [] (zk B im lm)) := by
  intro n
  induction n with
  | zero => intros; exact zL_none
  | succ n ih =>
    intro l1 l2 im lm
    unfold F_108_4
    refine zL_if (d_108_4 _ _) (fun h => ?_) (fun h => ?_)
    · skip
      exact zL_ret (d_108_27 _ _ _)
    · skip
      refine zL_bd (d_108_10 _ _) (m_107_ok _ _ _) fun v1 im1 lm1 => ?_
      refine zL_ifm (d_108_15 _ _ _) (fun h => ?_) (fun h => ?_)
      · repeat rw [if_pos h]
        refine zL_eq (d_108_21 _ _) ?_
        exact ih _ _ _ _
      · repeat rw [if_neg h]
        refine zL_eq (d_108_18 _ _) ?_
        exact ih _ _ _ _
def m_108  (im : zI) (lm : zJ) : zR :=
    F_108_4  2000 0 0 im lm
theorem m_108_ok {B : zeB}  (im : zI) (lm : zJ) : zL B 1 (m_108  im lm) (zeRun 108 0 [some (.ref 23), none, none] [] (zk B im lm)) := by
  unfold m_108
  refine zL_eq (d_108_0 _ _) ?_
  exact F_108_4_ok  _ _ _ _ _
/-! X7_doWagerFinal -/
theorem d_109_0 {B : zeB} {im : Nat → Nat → Int32} {lm : Nat → Nat → Int64} (l1 : Int32) (l2 : Int32) (o3 : Option Value)  : zeRun 109 0 [some (.ref 16), some (.int l1), some (.int l2), o3] [] (zk B im lm) = zeBh 109 5 [some (.ref 16), some (.int l1), some (.int l2), o3] [] (zeRun 38 0 [some (.ref 16), some (.int l1)] [] (zk B im lm)) := ze_call (ok := true) rfl 3 rfl rfl rfl
theorem d_109_5 {B : zeB} {im : Nat → Nat → Int32} {lm : Nat → Nat → Int64} (l1 : Int32) (l2 : Int32) (o3 : Option Value) (s0 : Int32)  : zeRun 109 5 [some (.ref 16), some (.int l1), some (.int l2), o3] [.int s0] (zk B im lm) = if s0 = 0 then zeRun 109 8 [some (.ref 16), some (.int l1), some (.int l2), o3] [] (zk B im lm) else zeRun 109 11 [some (.ref 16), some (.int l1), some (.int l2), o3] [] (zk B im lm) := ze_if (ok := true) rfl 1 rfl rfl
theorem d_109_8 {B : zeB} {im : Nat → Nat → Int32} {lm : Nat → Nat → Int64} (o0 : Option Value) (o1 : Option Value) (o2 : Option Value) (o3 : Option Value)  : zeRun 109 8 [o0, o1, o2, o3] [] (zk B im lm) = some (some (.int (-10000001)), (zk B im lm)) := ze_ret (ok := true) rfl 2 rfl rfl
theorem d_109_11 {B : zeB} {im : Nat → Nat → Int32} {lm : Nat → Nat → Int64} (l1 : Int32) (l2 : Int32) (o3 : Option Value)  : zeRun 109 11 [some (.ref 16), some (.int l1), some (.int l2), o3] [] (zk B im lm) = if l2 < 0 then zeRun 109 22 [some (.ref 16), some (.int l1), some (.int l2), o3] [] (zk B im lm) else zeRun 109 15 [some (.ref 16), some (.int l1), some (.int l2), o3] [] (zk B im lm) := ze_if (ok := true) rfl 2 rfl rfl
theorem d_109_22 {B : zeB} {im : Nat → Nat → Int32} {lm : Nat → Nat → Int64} (o0 : Option Value) (o1 : Option Value) (o2 : Option Value) (o3 : Option Value)  : zeRun 109 22 [o0, o1, o2, o3] [] (zk B im lm) = some (some (.int (-10000002)), (zk B im lm)) := ze_ret (ok := true) rfl 2 rfl rfl
theorem d_109_15 {B : zeB} {im : Nat → Nat → Int32} {lm : Nat → Nat → Int64} (l1 : Int32) (l2 : Int32) (o3 : Option Value)  : zeRun 109 15 [some (.ref 16), some (.int l1), some (.int l2), o3] [] (zk B im lm) = if l2 ≤ 100000 then zeRun 109 25 [some (.ref 16), some (.int l1), some (.int l2), o3] [] (zk B im lm) else zeRun 109 22 [some (.ref 16), some (.int l1), some (.int l2), o3] [] (zk B im lm) := ze_if (ok := true) rfl 3 rfl rfl
theorem d_109_25 {B : zeB} {im : Nat → Nat → Int32} {lm : Nat → Nat → Int64} (l1 : Int32) (l2 : Int32) (o3 : Option Value)  : zeRun 109 25 [some (.ref 16), some (.int l1), some (.int l2), o3] [] (zk B im lm) = if (im 17 0) = 4 then zeRun 109 42 [some (.ref 16), some (.int l1), some (.int l2), o3] [] (zk B im lm) else zeRun 109 36 [some (.ref 16), some (.int l1), some (.int l2), o3] [] (zk B im lm) := ze_if (ok := true) rfl 5 rfl rfl
theorem d_109_42 {B : zeB} {im : Nat → Nat → Int32} {lm : Nat → Nat → Int64} (l1 : Int32) (l2 : Int32) (o3 : Option Value)  : zeRun 109 42 [some (.ref 16), some (.int l1), some (.int l2), o3] [] (zk B im lm) = zeBh 109 53 [some (.ref 16), some (.int l1), some (.int l2), o3] [] (zeRun 107 0 [some (.ref 23), some (.int l1)] [] (zk B im lm)) := ze_call (ok := true) rfl 5 rfl rfl rfl
theorem d_109_53 {B : zeB} {im : Nat → Nat → Int32} {lm : Nat → Nat → Int64} (l1 : Int32) (l2 : Int32) (o3 : Option Value) (s0 : Int32)  : zeRun 109 53 [some (.ref 16), some (.int l1), some (.int l2), o3] [.int s0] (zk B im lm) = if s0 = 0 then zeRun 109 56 [some (.ref 16), some (.int l1), some (.int l2), o3] [] (zk B im lm) else zeRun 109 63 [some (.ref 16), some (.int l1), some (.int l2), o3] [] (zk B im lm) := ze_if (ok := true) rfl 1 rfl rfl
theorem d_109_56 {B : zeB} {im : Nat → Nat → Int32} {lm : Nat → Nat → Int64} (o1 : Option Value) (o2 : Option Value) (o3 : Option Value)  : zeRun 109 56 [some (.ref 16), o1, o2, o3] [] (zk B im lm) = zeBh 109 62 [some (.ref 16), o1, o2, o3] [] (zeRun 17 0 [some (.ref 16), some (.int 6)] [] (zk B im lm)) := ze_call (ok := true) rfl 3 rfl rfl rfl
theorem d_109_62 {B : zeB} {im : Nat → Nat → Int32} {lm : Nat → Nat → Int64} (o0 : Option Value) (o1 : Option Value) (o2 : Option Value) (o3 : Option Value) (s0 : Int32)  : zeRun 109 62 [o0, o1, o2, o3] [.int s0] (zk B im lm) = some (some (.int s0), (zk B im lm)) := ze_ret (ok := true) rfl 1 rfl rfl
theorem d_109_63 {B : zeB} {im : Nat → Nat → Int32} {lm : Nat → Nat → Int64} (l1 : Int32) (l2 : Int32) (o3 : Option Value) (c0 : zeInb l1 6 = true) : zeRun 109 63 [some (.ref 16), some (.int l1), some (.int l2), o3] [] (zk B im lm) = if l2 ≤ (im 24 (Int32.toNatClampNeg l1)) then zeRun 109 85 [some (.ref 16), some (.int l1), some (.int l2), o3] [] (zk B im lm) else zeRun 109 79 [some (.ref 16), some (.int l1), some (.int l2), o3] [] (zk B im lm) := ze_if (ok := (zeInb l1 6 && true)) rfl 8 rfl (zeA2 c0 rfl)
theorem d_109_85 {B : zeB} {im : Nat → Nat → Int32} {lm : Nat → Nat → Int64} (l1 : Int32) (l2 : Int32) (o3 : Option Value) (c0 : zeInb l1 6 = true) : zeRun 109 85 [some (.ref 16), some (.int l1), some (.int l2), o3] [] (zk B im lm) = zeBh 109 108 [some (.ref 16), some (.int l1), some (.int l2), o3] [] (zeRun 108 0 [some (.ref 23), none, none] [] (zk B (zeU2 im 25 (Int32.toNatClampNeg l1) l2) lm)) := ze_call (ok := (zeInb l1 6 && true)) rfl 11 rfl rfl (zeA2 c0 rfl)
theorem d_109_108 {B : zeB} {im : Nat → Nat → Int32} {lm : Nat → Nat → Int64} (o1 : Option Value) (o2 : Option Value) (o3 : Option Value) (s0 : Int32)  : zeRun 109 108 [some (.ref 16), o1, o2, o3] [.int s0] (zk B im lm) = if s0 = 0 then zeRun 109 113 [some (.ref 16), o1, o2, some (.int s0)] [] (zk B im lm) else zeRun 109 121 [some (.ref 16), o1, o2, some (.int s0)] [] (zk B im lm) := ze_if (ok := true) rfl 3 rfl rfl
theorem d_109_113 {B : zeB} {im : Nat → Nat → Int32} {lm : Nat → Nat → Int64} (o1 : Option Value) (o2 : Option Value) (l3 : Int32)  : zeRun 109 113 [some (.ref 16), o1, o2, some (.int l3)] [] (zk B im lm) = some (some (.int l3), (zk B (zeU2 im 17 0 5) lm)) := ze_ret (ok := true) rfl 6 rfl rfl
theorem d_109_121 {B : zeB} {im : Nat → Nat → Int32} {lm : Nat → Nat → Int64} (o0 : Option Value) (o1 : Option Value) (o2 : Option Value) (l3 : Int32)  : zeRun 109 121 [o0, o1, o2, some (.int l3)] [] (zk B im lm) = some (some (.int l3), (zk B im lm)) := ze_ret (ok := true) rfl 2 rfl rfl
theorem d_109_79 {B : zeB} {im : Nat → Nat → Int32} {lm : Nat → Nat → Int64} (o1 : Option Value) (o2 : Option Value) (o3 : Option Value)  : zeRun 109 79 [some (.ref 16), o1, o2, o3] [] (zk B im lm) = zeBh 109 84 [some (.ref 16), o1, o2, o3] [] (zeRun 17 0 [some (.ref 16), some (.int 5)] [] (zk B im lm)) := ze_call (ok := true) rfl 3 rfl rfl rfl
theorem d_109_84 {B : zeB} {im : Nat → Nat → Int32} {lm : Nat → Nat → Int64} (o0 : Option Value) (o1 : Option Value) (o2 : Option Value) (o3 : Option Value) (s0 : Int32)  : zeRun 109 84 [o0, o1, o2, o3] [.int s0] (zk B im lm) = some (some (.int s0), (zk B im lm)) := ze_ret (ok := true) rfl 1 rfl rfl
theorem d_109_36 {B : zeB} {im : Nat → Nat → Int32} {lm : Nat → Nat → Int64} (o1 : Option Value) (o2 : Option Value) (o3 : Option Value)  : zeRun 109 36 [some (.ref 16), o1, o2, o3] [] (zk B im lm) = zeBh 109 41 [some (.ref 16), o1, o2, o3] [] (zeRun 17 0 [some (.ref 16), some (.int 1)] [] (zk B im lm)) := ze_call (ok := true) rfl 3 rfl rfl rfl
theorem d_109_41 {B : zeB} {im : Nat → Nat → Int32} {lm : Nat → Nat → Int64} (o0 : Option Value) (o1 : Option Value) (o2 : Option Value) (o3 : Option Value) (s0 : Int32)  : zeRun 109 41 [o0, o1, o2, o3] [.int s0] (zk B im lm) = some (some (.int s0), (zk B im lm)) := ze_ret (ok := true) rfl 1 rfl rfl
def m_109 (l1 : Int32) (l2 : Int32) (im : zI) (lm : zJ) : zR :=
    if (if l1 < 0 then 0 else if (im 17 1) ≤ l1 then 0 else 1 : Int32) = 0 then
      some ((-10000001), im, lm)
    else
      if l2 < 0 then
        some ((-10000002), im, lm)
      else
        if l2 ≤ 100000 then
          if (im 17 0) = 4 then
            zBd (m_107 l1 im lm) fun v2 im2 lm2 =>
            if v2 = 0 then
              zBd (m_17 6 im2 lm2) fun v3 im3 lm3 =>
              some (v3, im3, lm3)
            else
              zCk (zeInb l1 6) <|
              if l2 ≤ (im2 24 (Int32.toNatClampNeg l1)) then
                zBd (m_108  (zeU2 im2 25 (Int32.toNatClampNeg l1) l2) lm2) fun v4 im4 lm4 =>
                some (v4, if v4 = 0 then (zeU2 im4 17 0 5) else im4, lm4)
              else
                zBd (m_17 5 im2 lm2) fun v5 im5 lm5 =>
                some (v5, im5, lm5)
          else
            zBd (m_17 1 im lm) fun v6 im6 lm6 =>
            some (v6, im6, lm6)
        else
          some ((-10000002), im, lm)
theorem m_109_ok {B : zeB} (l1 : Int32) (l2 : Int32) (im : zI) (lm : zJ) : zL B 1 (m_109 l1 l2 im lm) (zeRun 109 0 [some (.ref 16), some (.int l1), some (.int l2), none] [] (zk B im lm)) := by
  unfold m_109
  refine zL_bdp (e := (if l1 < 0 then 0 else if (im 17 1) ≤ l1 then 0 else 1 : Int32)) (d_109_0 _ _ _) (m_38_ok _ _ _) ?_
  refine zL_if (d_109_5 _ _ _ _) (fun h => ?_) (fun h => ?_)
  · skip
    exact zL_ret (d_109_8 _ _ _ _)
  · skip
    refine zL_if (d_109_11 _ _ _) (fun h => ?_) (fun h => ?_)
    · skip
      exact zL_ret (d_109_22 _ _ _ _)
    · skip
      refine zL_if (d_109_15 _ _ _) (fun h => ?_) (fun h => ?_)
      · skip
        refine zL_if (d_109_25 _ _ _) (fun h => ?_) (fun h => ?_)
        · skip
          refine zL_bd (d_109_42 _ _ _) (m_107_ok _ _ _) fun v2 im2 lm2 => ?_
          refine zL_if (d_109_53 _ _ _ _) (fun h => ?_) (fun h => ?_)
          · skip
            refine zL_bd (d_109_56 _ _ _) (m_17_ok _ _ _) fun v3 im3 lm3 => ?_
            exact zL_ret (d_109_62 _ _ _ _ _)
          · skip
            refine zL_ck fun c1 => ?_
            refine zL_if (d_109_63 _ _ _ c1) (fun h => ?_) (fun h => ?_)
            · skip
              refine zL_bd (d_109_85 _ _ _ c1) (m_108_ok _ _) fun v4 im4 lm4 => ?_
              refine zL_ifm (d_109_108 _ _ _ _) (fun h => ?_) (fun h => ?_)
              · repeat rw [if_pos h]
                exact zL_ret (d_109_113 _ _ _)
              · repeat rw [if_neg h]
                exact zL_ret (d_109_121 _ _ _ _)
            · skip
              refine zL_bd (d_109_79 _ _ _) (m_17_ok _ _ _) fun v5 im5 lm5 => ?_
              exact zL_ret (d_109_84 _ _ _ _ _)
        · skip
          refine zL_bd (d_109_36 _ _ _) (m_17_ok _ _ _) fun v6 im6 lm6 => ?_
          exact zL_ret (d_109_41 _ _ _ _ _)
      · skip
        exact zL_ret (d_109_22 _ _ _ _)
/-! X7_wagerFinal -/
theorem d_110_0 {B : zeB} {im : Nat → Nat → Int32} {lm : Nat → Nat → Int64} (l1 : Int32) (l2 : Int32)  : zeRun 110 0 [some (.ref 16), some (.int l1), some (.int l2)] [] (zk B im lm) = zeBh 110 11 [some (.ref 16), some (.int l1), some (.int l2)] [] (zeRun 15 0 [some (.ref 42), some (.ref 17)] [] (zk B im lm)) := ze_call (ok := true) rfl 5 rfl rfl rfl
theorem d_110_11 {B : zeB} {im : Nat → Nat → Int32} {lm : Nat → Nat → Int64} (l1 : Int32) (l2 : Int32)  : zeRun 110 11 [some (.ref 16), some (.int l1), some (.int l2)] [] (zk B im lm) = zeBh 110 18 [some (.ref 16), some (.int l1), some (.int l2)] [.ref 16] (zeRun 109 0 [some (.ref 16), some (.int l1), some (.int l2), none] [] (zk B im lm)) := ze_call (ok := true) rfl 5 rfl rfl rfl
theorem d_110_18 {B : zeB} {im : Nat → Nat → Int32} {lm : Nat → Nat → Int64} (o0 : Option Value) (o1 : Option Value) (o2 : Option Value) (s1 : Int32)  : zeRun 110 18 [o0, o1, o2] [.int s1, .ref 16] (zk B im lm) = zeBh 110 21 [o0, o1, o2] [] (zeRun 21 0 [some (.ref 16), some (.int s1)] [] (zk B im lm)) := ze_call (ok := true) rfl 1 rfl rfl rfl
theorem d_110_21 {B : zeB} {im : Nat → Nat → Int32} {lm : Nat → Nat → Int64} (o0 : Option Value) (o1 : Option Value) (o2 : Option Value) (s0 : Int32)  : zeRun 110 21 [o0, o1, o2] [.int s0] (zk B im lm) = some (some (.int s0), (zk B im lm)) := ze_ret (ok := true) rfl 1 rfl rfl
def m_110 (l1 : Int32) (l2 : Int32) (im : zI) (lm : zJ) : zR :=
    zBd (m_15  im lm) fun _ im1 lm1 =>
    zBd (m_109 l1 l2 im1 lm1) fun v2 im2 lm2 =>
    zBd (m_21 v2 im2 lm2) fun v3 im3 lm3 =>
    some (v3, im3, lm3)
theorem m_110_ok {B : zeB} (l1 : Int32) (l2 : Int32) (im : zI) (lm : zJ) : zL B 1 (m_110 l1 l2 im lm) (zeRun 110 0 [some (.ref 16), some (.int l1), some (.int l2)] [] (zk B im lm)) := by
  unfold m_110
  refine zL_bdv (d_110_0 _ _) (m_15_ok _ _) fun _ im1 lm1 => ?_
  refine zL_bd (d_110_11 _ _) (m_109_ok _ _ _ _) fun v2 im2 lm2 => ?_
  refine zL_bd (d_110_18 _ _ _ _) (m_21_ok _ _ _) fun v3 im3 lm3 => ?_
  exact zL_ret (d_110_21 _ _ _ _)
