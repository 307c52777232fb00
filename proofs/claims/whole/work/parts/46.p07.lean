/-! pure: X7_answerOpenClue, X0_members, X7_answerFinal, X4_isSeat, X4_solverOf, X4_limited, X4_noteRight, X4_replayEntry, X4_run, X4_scoreOf, X7_replayedScore -/
/-! X7_answerOpenClue -/
theorem d_78_0 {B : zeB} {im : Nat → Nat → Int32} {lm : Nat → Nat → Int64} (l1 : Int32) (l2 : Int32) (o3 : Option Value) (o4 : Option Value)  : zeRun 78 0 [some (.ref 16), some (.int l1), some (.int l2), o3, o4] [] (zk B im lm) = zeBh 78 13 [some (.ref 16), some (.int l1), some (.int l2), o3, o4] [] (zeRun 41 0 [some (.int (im 19 0))] [] (zk B im lm)) := ze_call (ok := true) rfl 5 rfl rfl rfl
theorem d_78_13 {B : zeB} {im : Nat → Nat → Int32} {lm : Nat → Nat → Int64} (l1 : Int32) (l2 : Int32) (o3 : Option Value) (o4 : Option Value) (s0 : Int32)  : zeRun 78 13 [some (.ref 16), some (.int l1), some (.int l2), o3, o4] [.int s0] (zk B im lm) = if (im 19 4) = 0 then zeRun 78 27 [some (.ref 16), some (.int l1), some (.int l2), some (.int s0), o4] [] (zk B im lm) else zeRun 78 62 [some (.ref 16), some (.int l1), some (.int l2), some (.int s0), o4] [] (zk B im lm) := ze_if (ok := true) rfl 6 rfl rfl
theorem d_78_27 {B : zeB} {im : Nat → Nat → Int32} {lm : Nat → Nat → Int64} (l1 : Int32) (l2 : Int32) (l3 : Int32) (o4 : Option Value)  : zeRun 78 27 [some (.ref 16), some (.int l1), some (.int l2), some (.int l3), o4] [] (zk B im lm) = if l2 = 0 then zeRun 78 55 [some (.ref 16), some (.int l1), some (.int l2), some (.int l3), o4] [.int l3, .int (im 19 0), .int 0, .int l1, .ref 26] (zk B im lm) else zeRun 78 51 [some (.ref 16), some (.int l1), some (.int l2), some (.int l3), o4] [.int l3, .int (im 19 0), .int 0, .int l1, .ref 26] (zk B im lm) := ze_if (ok := true) rfl 12 rfl rfl
theorem d_78_55 {B : zeB} {im : Nat → Nat → Int32} {lm : Nat → Nat → Int64} (l1 : Int32) (l2 : Int32) (o3 : Option Value) (o4 : Option Value) (s1 : Int32) (s2 : Int32) (s3 : Int32) (s4 : Int32)  : zeRun 78 55 [some (.ref 16), some (.int l1), some (.int l2), o3, o4] [.int s4, .int s3, .int s2, .int s1, .ref 26] (zk B im lm) = zeRun 78 56 [some (.ref 16), some (.int l1), some (.int l2), o3, o4] [.int 0, .int s4, .int s3, .int s2, .int s1, .ref 26] (zk B im lm) := ze_go (ok := true) rfl 1 rfl rfl
theorem d_78_51 {B : zeB} {im : Nat → Nat → Int32} {lm : Nat → Nat → Int64} (l1 : Int32) (l2 : Int32) (o3 : Option Value) (o4 : Option Value) (s1 : Int32) (s2 : Int32) (s3 : Int32) (s4 : Int32)  : zeRun 78 51 [some (.ref 16), some (.int l1), some (.int l2), o3, o4] [.int s4, .int s3, .int s2, .int s1, .ref 26] (zk B im lm) = zeRun 78 56 [some (.ref 16), some (.int l1), some (.int l2), o3, o4] [.int 1, .int s4, .int s3, .int s2, .int s1, .ref 26] (zk B im lm) := ze_go (ok := true) rfl 2 rfl rfl
theorem d_78_62 {B : zeB} {im : Nat → Nat → Int32} {lm : Nat → Nat → Int64} (l1 : Int32) (l2 : Int32) (l3 : Int32) (o4 : Option Value)  : zeRun 78 62 [some (.ref 16), some (.int l1), some (.int l2), some (.int l3), o4] [] (zk B im lm) = if l2 = 0 then zeRun 78 107 [some (.ref 16), some (.int l1), some (.int l2), some (.int l3), some (.int ((l3 * (im 18 2)) / 100))] [.int ((l3 * (im 18 2)) / 100), .int (im 19 0), .int 1, .int l1, .ref 26] (zk B im lm) else zeRun 78 103 [some (.ref 16), some (.int l1), some (.int l2), some (.int l3), some (.int ((l3 * (im 18 2)) / 100))] [.int ((l3 * (im 18 2)) / 100), .int (im 19 0), .int 1, .int l1, .ref 26] (zk B im lm) := ze_if (ok := true) rfl 22 rfl rfl
theorem d_78_107 {B : zeB} {im : Nat → Nat → Int32} {lm : Nat → Nat → Int64} (l1 : Int32) (l2 : Int32) (o3 : Option Value) (o4 : Option Value) (s1 : Int32) (s2 : Int32) (s3 : Int32) (s4 : Int32)  : zeRun 78 107 [some (.ref 16), some (.int l1), some (.int l2), o3, o4] [.int s4, .int s3, .int s2, .int s1, .ref 26] (zk B im lm) = zeRun 78 108 [some (.ref 16), some (.int l1), some (.int l2), o3, o4] [.int 0, .int s4, .int s3, .int s2, .int s1, .ref 26] (zk B im lm) := ze_go (ok := true) rfl 1 rfl rfl
theorem d_78_103 {B : zeB} {im : Nat → Nat → Int32} {lm : Nat → Nat → Int64} (l1 : Int32) (l2 : Int32) (o3 : Option Value) (o4 : Option Value) (s1 : Int32) (s2 : Int32) (s3 : Int32) (s4 : Int32)  : zeRun 78 103 [some (.ref 16), some (.int l1), some (.int l2), o3, o4] [.int s4, .int s3, .int s2, .int s1, .ref 26] (zk B im lm) = zeRun 78 108 [some (.ref 16), some (.int l1), some (.int l2), o3, o4] [.int 1, .int s4, .int s3, .int s2, .int s1, .ref 26] (zk B im lm) := ze_go (ok := true) rfl 2 rfl rfl
theorem d_78_108 {B : zeB} {im : Nat → Nat → Int32} {lm : Nat → Nat → Int64} (l1 : Int32) (l2 : Int32) (o3 : Option Value) (o4 : Option Value) (s1 : Int32) (s2 : Int32) (s3 : Int32) (s4 : Int32) (s5 : Int32)  : zeRun 78 108 [some (.ref 16), some (.int l1), some (.int l2), o3, o4] [.int s5, .int s4, .int s3, .int s2, .int s1, .ref 26] (zk B im lm) = zeBh 78 111 [some (.ref 16), some (.int l1), some (.int l2), o3, o4] [] (zeRun 71 0 [some (.ref 26), some (.int s1), some (.int s2), some (.int s3), some (.int s4), some (.int s5)] [] (zk B im lm)) := ze_call (ok := true) rfl 1 rfl rfl rfl
theorem d_78_111 {B : zeB} {im : Nat → Nat → Int32} {lm : Nat → Nat → Int64} (l1 : Int32) (l2 : Int32) (o3 : Option Value) (o4 : Option Value)  : zeRun 78 111 [some (.ref 16), some (.int l1), some (.int l2), o3, o4] [] (zk B im lm) = if l2 = 0 then zeRun 78 141 [some (.ref 16), some (.int l1), some (.int l2), o3, o4] [] (zk B (zeU2 im 19 4 ((im 19 4) ||| (1 <<< (l1 &&& 31)))) lm) else zeRun 78 133 [some (.ref 16), some (.int l1), some (.int l2), o3, o4] [] (zk B (zeU2 im 19 4 ((im 19 4) ||| (1 <<< (l1 &&& 31)))) lm) := ze_if (ok := true) rfl 12 rfl rfl
theorem d_78_141 {B : zeB} {im : Nat → Nat → Int32} {lm : Nat → Nat → Int64} (o0 : Option Value) (o1 : Option Value) (o2 : Option Value) (o3 : Option Value) (o4 : Option Value)  : zeRun 78 141 [o0, o1, o2, o3, o4] [] (zk B im lm) = some (none, (zk B im lm)) := ze_ret (ok := true) rfl 1 rfl rfl
theorem d_78_133 {B : zeB} {im : Nat → Nat → Int32} {lm : Nat → Nat → Int64} (o1 : Option Value) (o2 : Option Value) (o3 : Option Value) (o4 : Option Value)  : zeRun 78 133 [some (.ref 16), o1, o2, o3, o4] [] (zk B im lm) = some (none, (zk B (zeU2 im 17 0 0) lm)) := ze_ret (ok := true) rfl 5 rfl rfl
theorem d_78_56 {B : zeB} {im : Nat → Nat → Int32} {lm : Nat → Nat → Int64} (l1 : Int32) (l2 : Int32) (o3 : Option Value) (o4 : Option Value) (s1 : Int32) (s2 : Int32) (s3 : Int32) (s4 : Int32) (s5 : Int32)  : zeRun 78 56 [some (.ref 16), some (.int l1), some (.int l2), o3, o4] [.int s5, .int s4, .int s3, .int s2, .int s1, .ref 26] (zk B im lm) = zeBh 78 59 [some (.ref 16), some (.int l1), some (.int l2), o3, o4] [] (zeRun 71 0 [some (.ref 26), some (.int s1), some (.int s2), some (.int s3), some (.int s4), some (.int s5)] [] (zk B im lm)) := ze_call (ok := true) rfl 1 rfl rfl rfl
theorem d_78_59 {B : zeB} {im : Nat → Nat → Int32} {lm : Nat → Nat → Int64} (l1 : Int32) (l2 : Int32) (o3 : Option Value) (o4 : Option Value)  : zeRun 78 59 [some (.ref 16), some (.int l1), some (.int l2), o3, o4] [] (zk B im lm) = zeRun 78 111 [some (.ref 16), some (.int l1), some (.int l2), o3, o4] [] (zk B im lm) := ze_go (ok := true) rfl 1 rfl rfl
def J_78_111  (l1 : Int32) (l2 : Int32) (im : zI) (lm : zJ) : zR :=
    some (0, if l2 = 0 then (zeU2 im 19 4 ((im 19 4) ||| (1 <<< (l1 &&& 31)))) else (zeU2 (zeU2 im 19 4 ((im 19 4) ||| (1 <<< (l1 &&& 31)))) 17 0 0), lm)
theorem J_78_111_ok {B : zeB} (l1 : Int32) (l2 : Int32) (o3 : Option Value) (o4 : Option Value) (im : zI) (lm : zJ) : zL B 0 (J_78_111  l1 l2 im lm) (zeRun 78 111 [some (.ref 16), some (.int l1), some (.int l2), o3, o4] [] (zk B im lm)) := by
  unfold J_78_111
  refine zL_ifm (d_78_111 _ _ _ _) (fun h => ?_) (fun h => ?_)
  · repeat rw [if_pos h]
    exact zL_retv (d_78_141 _ _ _ _ _)
  · repeat rw [if_neg h]
    exact zL_retv (d_78_133 _ _ _ _)
def J_78_108  (l1 : Int32) (l2 : Int32) (s1 : Int32) (s2 : Int32) (s3 : Int32) (s4 : Int32) (s5 : Int32) (im : zI) (lm : zJ) : zR :=
    zBd (m_71 s1 s2 s3 s4 s5 im lm) fun _ im1 lm1 =>
    J_78_111   l1 l2 im1 lm1
theorem J_78_108_ok {B : zeB} (l1 : Int32) (l2 : Int32) (s1 : Int32) (s2 : Int32) (s3 : Int32) (s4 : Int32) (s5 : Int32) (o3 : Option Value) (o4 : Option Value) (im : zI) (lm : zJ) : zL B 0 (J_78_108  l1 l2 s1 s2 s3 s4 s5 im lm) (zeRun 78 108 [some (.ref 16), some (.int l1), some (.int l2), o3, o4] [.int s5, .int s4, .int s3, .int s2, .int s1, .ref 26] (zk B im lm)) := by
  unfold J_78_108
  refine zL_bdv (d_78_108 _ _ _ _ _ _ _ _ _) (m_71_ok _ _ _ _ _ _ _) fun _ im1 lm1 => ?_
  exact J_78_111_ok   _ _ _ _ _ _
def J_78_56  (l1 : Int32) (l2 : Int32) (s1 : Int32) (s2 : Int32) (s3 : Int32) (s4 : Int32) (s5 : Int32) (im : zI) (lm : zJ) : zR :=
    zBd (m_71 s1 s2 s3 s4 s5 im lm) fun _ im1 lm1 =>
    J_78_111   l1 l2 im1 lm1
theorem J_78_56_ok {B : zeB} (l1 : Int32) (l2 : Int32) (s1 : Int32) (s2 : Int32) (s3 : Int32) (s4 : Int32) (s5 : Int32) (o3 : Option Value) (o4 : Option Value) (im : zI) (lm : zJ) : zL B 0 (J_78_56  l1 l2 s1 s2 s3 s4 s5 im lm) (zeRun 78 56 [some (.ref 16), some (.int l1), some (.int l2), o3, o4] [.int s5, .int s4, .int s3, .int s2, .int s1, .ref 26] (zk B im lm)) := by
  unfold J_78_56
  refine zL_bdv (d_78_56 _ _ _ _ _ _ _ _ _) (m_71_ok _ _ _ _ _ _ _) fun _ im1 lm1 => ?_
  refine zL_eq (d_78_59 _ _ _ _) ?_
  exact J_78_111_ok   _ _ _ _ _ _
def m_78 (l1 : Int32) (l2 : Int32) (im : zI) (lm : zJ) : zR :=
    if (im 19 4) = 0 then
      J_78_56   l1 l2 l1 0 (im 19 0) ((100 * (((im 19 0) / 5) + 1)) : Int32) (if l2 = 0 then 0 else 1) im lm
    else
      J_78_108   l1 l2 l1 1 (im 19 0) ((((100 * (((im 19 0) / 5) + 1)) : Int32) * (im 18 2)) / 100) (if l2 = 0 then 0 else 1) im lm
theorem m_78_ok {B : zeB} (l1 : Int32) (l2 : Int32) (im : zI) (lm : zJ) : zL B 0 (m_78 l1 l2 im lm) (zeRun 78 0 [some (.ref 16), some (.int l1), some (.int l2), none, none] [] (zk B im lm)) := by
  unfold m_78
  refine zL_bdp (e := ((100 * (((im 19 0) / 5) + 1)) : Int32)) (d_78_0 _ _ _ _) (m_41_ok _ _ _) ?_
  refine zL_if (d_78_13 _ _ _ _ _) (fun h => ?_) (fun h => ?_)
  · skip
    refine zL_ifm (d_78_27 _ _ _ _) (fun h => ?_) (fun h => ?_)
    · repeat rw [if_pos h]
      refine zL_eq (d_78_55 _ _ _ _ _ _ _ _) ?_
      exact J_78_56_ok   _ _ _ _ _ _ _ _ _ _ _
    · repeat rw [if_neg h]
      refine zL_eq (d_78_51 _ _ _ _ _ _ _ _) ?_
      exact J_78_56_ok   _ _ _ _ _ _ _ _ _ _ _
  · skip
    refine zL_ifm (d_78_62 _ _ _ _) (fun h => ?_) (fun h => ?_)
    · repeat rw [if_pos h]
      refine zL_eq (d_78_107 _ _ _ _ _ _ _ _) ?_
      exact J_78_108_ok   _ _ _ _ _ _ _ _ _ _ _
    · repeat rw [if_neg h]
      refine zL_eq (d_78_103 _ _ _ _ _ _ _ _) ?_
      exact J_78_108_ok   _ _ _ _ _ _ _ _ _ _ _
/-! X0_members -/
theorem d_83_0 {B : zeB} {im : Nat → Nat → Int32} {lm : Nat → Nat → Int64} (o1 : Option Value) (o2 : Option Value) (o3 : Option Value) (o4 : Option Value) (o5 : Option Value)  : zeRun 83 0 [some (.ref 23), o1, o2, o3, o4, o5] [] (zk B im lm) = zeRun 83 13 [some (.ref 23), some (.int 0), some (.ref 24), some (.int 6), some (.int 0), o5] [] (zk B im lm) := ze_go (ok := true) rfl 10 rfl rfl
theorem d_83_13 {B : zeB} {im : Nat → Nat → Int32} {lm : Nat → Nat → Int64} (o0 : Option Value) (l1 : Int32) (l3 : Int32) (l4 : Int32) (o5 : Option Value)  : zeRun 83 13 [o0, some (.int l1), some (.ref 24), some (.int l3), some (.int l4), o5] [] (zk B im lm) = if l3 ≤ l4 then zeRun 83 39 [o0, some (.int l1), some (.ref 24), some (.int l3), some (.int l4), o5] [] (zk B im lm) else zeRun 83 19 [o0, some (.int l1), some (.ref 24), some (.int l3), some (.int l4), o5] [] (zk B im lm) := ze_if (ok := true) rfl 3 rfl rfl
theorem d_83_39 {B : zeB} {im : Nat → Nat → Int32} {lm : Nat → Nat → Int64} (o0 : Option Value) (l1 : Int32) (o2 : Option Value) (o3 : Option Value) (o4 : Option Value) (o5 : Option Value)  : zeRun 83 39 [o0, some (.int l1), o2, o3, o4, o5] [] (zk B im lm) = some (some (.int l1), (zk B im lm)) := ze_ret (ok := true) rfl 2 rfl rfl
theorem d_83_19 {B : zeB} {im : Nat → Nat → Int32} {lm : Nat → Nat → Int64} (o0 : Option Value) (l1 : Int32) (l3 : Int32) (l4 : Int32) (o5 : Option Value) (c0 : zeInb l4 6 = true) : zeRun 83 19 [o0, some (.int l1), some (.ref 24), some (.int l3), some (.int l4), o5] [] (zk B im lm) = if (im 24 (Int32.toNatClampNeg l4)) ≤ 0 then zeRun 83 33 [o0, some (.int l1), some (.ref 24), some (.int l3), some (.int l4), some (.int (im 24 (Int32.toNatClampNeg l4)))] [] (zk B im lm) else zeRun 83 30 [o0, some (.int l1), some (.ref 24), some (.int l3), some (.int l4), some (.int (im 24 (Int32.toNatClampNeg l4)))] [] (zk B im lm) := ze_if (ok := (zeInb l4 6 && true)) rfl 6 rfl (zeA2 c0 rfl)
theorem d_83_33 {B : zeB} {im : Nat → Nat → Int32} {lm : Nat → Nat → Int64} (o0 : Option Value) (l1 : Int32) (l3 : Int32) (l4 : Int32) (o5 : Option Value)  : zeRun 83 33 [o0, some (.int l1), some (.ref 24), some (.int l3), some (.int l4), o5] [] (zk B im lm) = zeRun 83 13 [o0, some (.int l1), some (.ref 24), some (.int l3), some (.int (l4 + 1)), o5] [] (zk B im lm) := ze_go (ok := true) rfl 2 rfl rfl
theorem d_83_30 {B : zeB} {im : Nat → Nat → Int32} {lm : Nat → Nat → Int64} (o0 : Option Value) (l1 : Int32) (l3 : Int32) (l4 : Int32) (o5 : Option Value)  : zeRun 83 30 [o0, some (.int l1), some (.ref 24), some (.int l3), some (.int l4), o5] [] (zk B im lm) = zeRun 83 13 [o0, some (.int (l1 + 1)), some (.ref 24), some (.int l3), some (.int (l4 + 1)), o5] [] (zk B im lm) := ze_go (ok := true) rfl 3 rfl rfl
def F_83_13  : Nat → Int32 → Int32 → Int32 → zI → zJ → zR
  | 0, _, _, _, _, _ => none
  | n + 1, l1, l3, l4, im, lm =>
    if l3 ≤ l4 then
      some (l1, im, lm)
    else
      zCk (zeInb l4 6) <|
      F_83_13  n (if (im 24 (Int32.toNatClampNeg l4)) ≤ 0 then l1 else (l1 + 1)) l3 (l4 + 1) im lm
theorem F_83_13_ok {B : zeB} : ∀ (n : Nat) (l1 : Int32) (l3 : Int32) (l4 : Int32) (o0 : Option Value) (o5 : Option Value) (im : zI) (lm : zJ), zL B 1 (F_83_13  n l1 l3 l4 im lm) (zeRun 83 13 [o0, some (.int l1), some (.ref 24), some (.int l3), some (.int l4), o5] [] (zk B im lm)) := by
  intro n
  induction n with
  | zero => intros; exact zL_none
  | succ n ih =>
    intro l1 l3 l4 o0 o5 im lm
    unfold F_83_13
    refine zL_if (d_83_13 _ _ _ _ _) (fun h => ?_) (fun h => ?_)
    · skip
      exact zL_ret (d_83_39 _ _ _ _ _ _)
    · skip
      refine zL_ck fun c1 => ?_
      refine zL_ifm (d_83_19 _ _ _ _ _ c1) (fun h => ?_) (fun h => ?_)
      · repeat rw [if_pos h]
        refine zL_eq (d_83_33 _ _ _ _ _) ?_
        exact ih _ _ _ _ _ _ _
      · repeat rw [if_neg h]
        refine zL_eq (d_83_30 _ _ _ _ _) ?_
        exact ih _ _ _ _ _ _ _
def m_83  (im : zI) (lm : zJ) : zR :=
    F_83_13  2000 0 6 0 im lm
theorem m_83_ok {B : zeB}  (im : zI) (lm : zJ) : zL B 1 (m_83  im lm) (zeRun 83 0 [some (.ref 23), none, none, none, none, none] [] (zk B im lm)) := by
  unfold m_83
  refine zL_eq (d_83_0 _ _ _ _ _) ?_
  exact F_83_13_ok  _ _ _ _ _ _ _ _
/-! X7_answerFinal -/
theorem d_84_0 {B : zeB} {im : Nat → Nat → Int32} {lm : Nat → Nat → Int64} (l1 : Int32) (l2 : Int32) (c0 : zeInb l1 6 = true) : zeRun 84 0 [some (.ref 16), some (.int l1), some (.int l2)] [] (zk B im lm) = if l2 = 0 then zeRun 84 31 [some (.ref 16), some (.int l1), some (.int l2)] [.int (im 25 (Int32.toNatClampNeg l1)), .int (-10000005), .int 3, .int l1, .ref 26] (zk B im lm) else zeRun 84 27 [some (.ref 16), some (.int l1), some (.int l2)] [.int (im 25 (Int32.toNatClampNeg l1)), .int (-10000005), .int 3, .int l1, .ref 26] (zk B im lm) := ze_if (ok := (zeInb l1 6 && true)) rfl 14 rfl (zeA2 c0 rfl)
theorem d_84_31 {B : zeB} {im : Nat → Nat → Int32} {lm : Nat → Nat → Int64} (o1 : Option Value) (o2 : Option Value) (s1 : Int32) (s2 : Int32) (s3 : Int32) (s4 : Int32)  : zeRun 84 31 [some (.ref 16), o1, o2] [.int s4, .int s3, .int s2, .int s1, .ref 26] (zk B im lm) = zeRun 84 32 [some (.ref 16), o1, o2] [.int 0, .int s4, .int s3, .int s2, .int s1, .ref 26] (zk B im lm) := ze_go (ok := true) rfl 1 rfl rfl
theorem d_84_27 {B : zeB} {im : Nat → Nat → Int32} {lm : Nat → Nat → Int64} (o1 : Option Value) (o2 : Option Value) (s1 : Int32) (s2 : Int32) (s3 : Int32) (s4 : Int32)  : zeRun 84 27 [some (.ref 16), o1, o2] [.int s4, .int s3, .int s2, .int s1, .ref 26] (zk B im lm) = zeRun 84 32 [some (.ref 16), o1, o2] [.int 1, .int s4, .int s3, .int s2, .int s1, .ref 26] (zk B im lm) := ze_go (ok := true) rfl 2 rfl rfl
theorem d_84_32 {B : zeB} {im : Nat → Nat → Int32} {lm : Nat → Nat → Int64} (o1 : Option Value) (o2 : Option Value) (s1 : Int32) (s2 : Int32) (s3 : Int32) (s4 : Int32) (s5 : Int32)  : zeRun 84 32 [some (.ref 16), o1, o2] [.int s5, .int s4, .int s3, .int s2, .int s1, .ref 26] (zk B im lm) = zeBh 84 35 [some (.ref 16), o1, o2] [] (zeRun 71 0 [some (.ref 26), some (.int s1), some (.int s2), some (.int s3), some (.int s4), some (.int s5)] [] (zk B im lm)) := ze_call (ok := true) rfl 1 rfl rfl rfl
theorem d_84_35 {B : zeB} {im : Nat → Nat → Int32} {lm : Nat → Nat → Int64} (o1 : Option Value) (o2 : Option Value)  : zeRun 84 35 [some (.ref 16), o1, o2] [] (zk B im lm) = zeBh 84 71 [some (.ref 16), o1, o2] [.int ((im 23 0) + 1)] (zeRun 83 0 [some (.ref 23), none, none, none, none, none] [] (zk B (zeU2 im 23 0 ((im 23 0) + 1)) lm)) := ze_call (ok := true) rfl 16 rfl rfl rfl
theorem d_84_71 {B : zeB} {im : Nat → Nat → Int32} {lm : Nat → Nat → Int64} (o1 : Option Value) (o2 : Option Value) (s0 : Int32) (s1 : Int32)  : zeRun 84 71 [some (.ref 16), o1, o2] [.int s1, .int s0] (zk B im lm) = if s0 < s1 then zeRun 84 83 [some (.ref 16), o1, o2] [] (zk B im lm) else zeRun 84 74 [some (.ref 16), o1, o2] [] (zk B im lm) := ze_if (ok := true) rfl 1 rfl rfl
theorem d_84_83 {B : zeB} {im : Nat → Nat → Int32} {lm : Nat → Nat → Int64} (o0 : Option Value) (o1 : Option Value) (o2 : Option Value)  : zeRun 84 83 [o0, o1, o2] [] (zk B im lm) = some (none, (zk B im lm)) := ze_ret (ok := true) rfl 1 rfl rfl
theorem d_84_74 {B : zeB} {im : Nat → Nat → Int32} {lm : Nat → Nat → Int64} (o1 : Option Value) (o2 : Option Value)  : zeRun 84 74 [some (.ref 16), o1, o2] [] (zk B im lm) = some (none, (zk B (zeU2 im 17 0 6) lm)) := ze_ret (ok := true) rfl 5 rfl rfl
def J_84_32  (s1 : Int32) (s2 : Int32) (s3 : Int32) (s4 : Int32) (s5 : Int32) (im : zI) (lm : zJ) : zR :=
    zBd (m_71 s1 s2 s3 s4 s5 im lm) fun _ im1 lm1 =>
    zBd (m_83  (zeU2 im1 23 0 ((im1 23 0) + 1)) lm1) fun v2 im2 lm2 =>
    some (0, if ((im1 23 0) + 1) < v2 then im2 else (zeU2 im2 17 0 6), lm2)
theorem J_84_32_ok {B : zeB} (s1 : Int32) (s2 : Int32) (s3 : Int32) (s4 : Int32) (s5 : Int32) (o1 : Option Value) (o2 : Option Value) (im : zI) (lm : zJ) : zL B 0 (J_84_32  s1 s2 s3 s4 s5 im lm) (zeRun 84 32 [some (.ref 16), o1, o2] [.int s5, .int s4, .int s3, .int s2, .int s1, .ref 26] (zk B im lm)) := by
  unfold J_84_32
  refine zL_bdv (d_84_32 _ _ _ _ _ _ _) (m_71_ok _ _ _ _ _ _ _) fun _ im1 lm1 => ?_
  refine zL_bd (d_84_35 _ _) (m_83_ok _ _) fun v2 im2 lm2 => ?_
  refine zL_ifm (d_84_71 _ _ _ _) (fun h => ?_) (fun h => ?_)
  · repeat rw [if_pos h]
    exact zL_retv (d_84_83 _ _ _)
  · repeat rw [if_neg h]
    exact zL_retv (d_84_74 _ _)
def m_84 (l1 : Int32) (l2 : Int32) (im : zI) (lm : zJ) : zR :=
    zCk (zeInb l1 6) <|
    J_84_32   l1 3 (-10000005) (im 25 (Int32.toNatClampNeg l1)) (if l2 = 0 then 0 else 1) im lm
theorem m_84_ok {B : zeB} (l1 : Int32) (l2 : Int32) (im : zI) (lm : zJ) : zL B 0 (m_84 l1 l2 im lm) (zeRun 84 0 [some (.ref 16), some (.int l1), some (.int l2)] [] (zk B im lm)) := by
  unfold m_84
  refine zL_ck fun c1 => ?_
  refine zL_ifm (d_84_0 _ _ c1) (fun h => ?_) (fun h => ?_)
  · repeat rw [if_pos h]
    refine zL_eq (d_84_31 _ _ _ _ _ _) ?_
    exact J_84_32_ok   _ _ _ _ _ _ _ _ _
  · repeat rw [if_neg h]
    refine zL_eq (d_84_27 _ _ _ _ _ _) ?_
    exact J_84_32_ok   _ _ _ _ _ _ _ _ _
/-! X4_isSeat -/
theorem d_79_0 {B : zeB} {im : Nat → Nat → Int32} {lm : Nat → Nat → Int64} (l0 : Int32)  : zeRun 79 0 [some (.int l0)] [] (zk B im lm) = if l0 < 0 then zeRun 79 14 [some (.int l0)] [] (zk B im lm) else zeRun 79 4 [some (.int l0)] [] (zk B im lm) := ze_if (ok := true) rfl 2 rfl rfl
theorem d_79_14 {B : zeB} {im : Nat → Nat → Int32} {lm : Nat → Nat → Int64} (o0 : Option Value)  : zeRun 79 14 [o0] [] (zk B im lm) = some (some (.int 0), (zk B im lm)) := ze_ret (ok := true) rfl 2 rfl rfl
theorem d_79_4 {B : zeB} {im : Nat → Nat → Int32} {lm : Nat → Nat → Int64} (l0 : Int32)  : zeRun 79 4 [some (.int l0)] [] (zk B im lm) = if 6 ≤ l0 then zeRun 79 14 [some (.int l0)] [] (zk B im lm) else zeRun 79 10 [some (.int l0)] [] (zk B im lm) := ze_if (ok := true) rfl 3 rfl rfl
theorem d_79_10 {B : zeB} {im : Nat → Nat → Int32} {lm : Nat → Nat → Int64} (o0 : Option Value)  : zeRun 79 10 [o0] [] (zk B im lm) = some (some (.int 1), (zk B im lm)) := ze_ret (ok := true) rfl 3 rfl rfl
def m_79 (l0 : Int32) (im : zI) (lm : zJ) : zR :=
    some (if l0 < 0 then 0 else if 6 ≤ l0 then 0 else 1, im, lm)
theorem m_79_ok {B : zeB} (l0 : Int32) (im : zI) (lm : zJ) : zL B 1 (m_79 l0 im lm) (zeRun 79 0 [some (.int l0)] [] (zk B im lm)) := by
  unfold m_79
  refine zL_ifm (d_79_0 _) (fun h => ?_) (fun h => ?_)
  · repeat rw [if_pos h]
    exact zL_ret (d_79_14 _)
  · repeat rw [if_neg h]
    refine zL_ifm (d_79_4 _) (fun h => ?_) (fun h => ?_)
    · repeat rw [if_pos h]
      exact zL_ret (d_79_14 _)
    · repeat rw [if_neg h]
      exact zL_ret (d_79_10 _)
/-! X4_solverOf -/
theorem d_72_0 {B : zeB} {im : Nat → Nat → Int32} {lm : Nat → Nat → Int64} (l1 : Int32)  : zeRun 72 0 [some (.ref 32), some (.int l1)] [] (zk B im lm) = zeBh 72 4 [some (.ref 32), some (.int l1)] [] (zeRun 27 0 [some (.int l1)] [] (zk B im lm)) := ze_call (ok := true) rfl 2 rfl rfl rfl
theorem d_72_4 {B : zeB} {im : Nat → Nat → Int32} {lm : Nat → Nat → Int64} (l1 : Int32) (s0 : Int32)  : zeRun 72 4 [some (.ref 32), some (.int l1)] [.int s0] (zk B im lm) = if s0 = 0 then zeRun 72 16 [some (.ref 32), some (.int l1)] [] (zk B im lm) else zeRun 72 7 [some (.ref 32), some (.int l1)] [] (zk B im lm) := ze_if (ok := true) rfl 1 rfl rfl
theorem d_72_16 {B : zeB} {im : Nat → Nat → Int32} {lm : Nat → Nat → Int64} (o0 : Option Value) (o1 : Option Value)  : zeRun 72 16 [o0, o1] [] (zk B im lm) = some (some (.int (-10000005)), (zk B im lm)) := ze_ret (ok := true) rfl 2 rfl rfl
theorem d_72_7 {B : zeB} {im : Nat → Nat → Int32} {lm : Nat → Nat → Int64} (l1 : Int32) (c0 : zeInb l1 25 = true) : zeRun 72 7 [some (.ref 32), some (.int l1)] [] (zk B im lm) = some (some (.int (im 37 (Int32.toNatClampNeg l1))), (zk B im lm)) := ze_ret (ok := (zeInb l1 25 && true)) rfl 6 rfl (zeA2 c0 rfl)
def m_72 (l1 : Int32) (im : zI) (lm : zJ) : zR :=
    zCk (if (if l1 < 0 then 0 else if 25 ≤ l1 then 0 else 1 : Int32) = 0 then true else zeInb l1 25) <|
    some (if (if l1 < 0 then 0 else if 25 ≤ l1 then 0 else 1 : Int32) = 0 then (-10000005) else (im 37 (Int32.toNatClampNeg l1)), im, lm)
theorem m_72_ok {B : zeB} (l1 : Int32) (im : zI) (lm : zJ) : zL B 1 (m_72 l1 im lm) (zeRun 72 0 [some (.ref 32), some (.int l1)] [] (zk B im lm)) := by
  unfold m_72
  refine zL_bdp (e := (if l1 < 0 then 0 else if 25 ≤ l1 then 0 else 1 : Int32)) (d_72_0 _) (m_27_ok _ _ _) ?_
  refine zL_ifm (d_72_4 _ _) (fun h => ?_) (fun h => ?_)
  · repeat rw [if_pos h]
    refine zL_ckt ?_
    exact zL_ret (d_72_16 _ _)
  · repeat rw [if_neg h]
    refine zL_ck fun c1 => ?_
    exact zL_ret (d_72_7 _ c1)
/-! X4_limited -/
theorem d_73_0 {B : zeB} {im : Nat → Nat → Int32} {lm : Nat → Nat → Int64} (l0 : Int32) (l1 : Int32) (l2 : Int32)  : zeRun 73 0 [some (.int l0), some (.int l1), some (.int l2)] [] (zk B im lm) = if l1 = 2 then zeRun 73 5 [some (.int l0), some (.int l1), some (.int l2)] [] (zk B im lm) else zeRun 73 17 [some (.int l0), some (.int l1), some (.int l2)] [] (zk B im lm) := ze_if (ok := true) rfl 3 rfl rfl
theorem d_73_5 {B : zeB} {im : Nat → Nat → Int32} {lm : Nat → Nat → Int64} (l0 : Int32) (o1 : Option Value) (l2 : Int32)  : zeRun 73 5 [some (.int l0), o1, some (.int l2)] [] (zk B im lm) = some (some (.int (if (if l2 < 500 then 500 else l2) < l0 then (if l2 < 500 then 500 else l2) else l0)), (zk B im lm)) := ze_ret (ok := true) rfl 6 rfl rfl
theorem d_73_17 {B : zeB} {im : Nat → Nat → Int32} {lm : Nat → Nat → Int64} (l0 : Int32) (l1 : Int32) (l2 : Int32)  : zeRun 73 17 [some (.int l0), some (.int l1), some (.int l2)] [] (zk B im lm) = if l1 = 3 then zeRun 73 22 [some (.int l0), some (.int l1), some (.int l2)] [] (zk B im lm) else zeRun 73 32 [some (.int l0), some (.int l1), some (.int l2)] [] (zk B im lm) := ze_if (ok := true) rfl 3 rfl rfl
theorem d_73_22 {B : zeB} {im : Nat → Nat → Int32} {lm : Nat → Nat → Int64} (l0 : Int32) (o1 : Option Value) (l2 : Int32)  : zeRun 73 22 [some (.int l0), o1, some (.int l2)] [] (zk B im lm) = some (some (.int (if (if l2 < 0 then 0 else l2) < l0 then (if l2 < 0 then 0 else l2) else l0)), (zk B im lm)) := ze_ret (ok := true) rfl 6 rfl rfl
theorem d_73_32 {B : zeB} {im : Nat → Nat → Int32} {lm : Nat → Nat → Int64} (l0 : Int32) (o1 : Option Value) (o2 : Option Value)  : zeRun 73 32 [some (.int l0), o1, o2] [] (zk B im lm) = some (some (.int l0), (zk B im lm)) := ze_ret (ok := true) rfl 2 rfl rfl
def m_73 (l0 : Int32) (l1 : Int32) (l2 : Int32) (im : zI) (lm : zJ) : zR :=
    some (if l1 = 2 then (if (if l2 < 500 then 500 else l2) < l0 then (if l2 < 500 then 500 else l2) else l0) else if l1 = 3 then (if (if l2 < 0 then 0 else l2) < l0 then (if l2 < 0 then 0 else l2) else l0) else l0, im, lm)
theorem m_73_ok {B : zeB} (l0 : Int32) (l1 : Int32) (l2 : Int32) (im : zI) (lm : zJ) : zL B 1 (m_73 l0 l1 l2 im lm) (zeRun 73 0 [some (.int l0), some (.int l1), some (.int l2)] [] (zk B im lm)) := by
  unfold m_73
  refine zL_ifm (d_73_0 _ _ _) (fun h => ?_) (fun h => ?_)
  · repeat rw [if_pos h]
    exact zL_ret (d_73_5 _ _ _)
  · repeat rw [if_neg h]
    refine zL_ifm (d_73_17 _ _ _) (fun h => ?_) (fun h => ?_)
    · repeat rw [if_pos h]
      exact zL_ret (d_73_22 _ _ _)
    · repeat rw [if_neg h]
      exact zL_ret (d_73_32 _ _ _)
/-! X4_noteRight -/
theorem d_74_0 {B : zeB} {im : Nat → Nat → Int32} {lm : Nat → Nat → Int64} (l1 : Int32) (l2 : Int32) (c0 : zeInb l1 6 = true) (c1 : zeInb l1 6 = true) : zeRun 74 0 [some (.ref 32), some (.int l1), some (.int l2)] [] (zk B im lm) = zeBh 74 14 [some (.ref 32), some (.int l1), some (.int l2)] [] (zeRun 27 0 [some (.int l2)] [] (zk B (zeU2 im 34 (Int32.toNatClampNeg l1) ((im 34 (Int32.toNatClampNeg l1)) + 1)) lm)) := ze_call (ok := (zeInb l1 6 && (zeInb l1 6 && true))) rfl 10 rfl rfl (zeA2 c1 (zeA2 c0 rfl))
theorem d_74_14 {B : zeB} {im : Nat → Nat → Int32} {lm : Nat → Nat → Int64} (l1 : Int32) (l2 : Int32) (s0 : Int32)  : zeRun 74 14 [some (.ref 32), some (.int l1), some (.int l2)] [.int s0] (zk B im lm) = if s0 = 0 then zeRun 74 29 [some (.ref 32), some (.int l1), some (.int l2)] [] (zk B im lm) else zeRun 74 17 [some (.ref 32), some (.int l1), some (.int l2)] [] (zk B im lm) := ze_if (ok := true) rfl 1 rfl rfl
theorem d_74_29 {B : zeB} {im : Nat → Nat → Int32} {lm : Nat → Nat → Int64} (o0 : Option Value) (o1 : Option Value) (o2 : Option Value)  : zeRun 74 29 [o0, o1, o2] [] (zk B im lm) = some (none, (zk B im lm)) := ze_ret (ok := true) rfl 1 rfl rfl
theorem d_74_17 {B : zeB} {im : Nat → Nat → Int32} {lm : Nat → Nat → Int64} (l1 : Int32) (l2 : Int32) (c0 : zeInb l2 25 = true) : zeRun 74 17 [some (.ref 32), some (.int l1), some (.int l2)] [] (zk B im lm) = some (none, (zk B (zeU2 (zeU2 im 37 (Int32.toNatClampNeg l2) l1) 32 0 l1) lm)) := ze_ret (ok := (zeInb l2 25 && true)) rfl 9 rfl (zeA2 c0 rfl)
def m_74 (l1 : Int32) (l2 : Int32) (im : zI) (lm : zJ) : zR :=
    zCk (zeInb l1 6) <|
    zCk (if (if l2 < 0 then 0 else if 25 ≤ l2 then 0 else 1 : Int32) = 0 then true else zeInb l2 25) <|
    some (0, if (if l2 < 0 then 0 else if 25 ≤ l2 then 0 else 1 : Int32) = 0 then (zeU2 im 34 (Int32.toNatClampNeg l1) ((im 34 (Int32.toNatClampNeg l1)) + 1)) else (zeU2 (zeU2 (zeU2 im 34 (Int32.toNatClampNeg l1) ((im 34 (Int32.toNatClampNeg l1)) + 1)) 37 (Int32.toNatClampNeg l2) l1) 32 0 l1), lm)
theorem m_74_ok {B : zeB} (l1 : Int32) (l2 : Int32) (im : zI) (lm : zJ) : zL B 0 (m_74 l1 l2 im lm) (zeRun 74 0 [some (.ref 32), some (.int l1), some (.int l2)] [] (zk B im lm)) := by
  unfold m_74
  refine zL_ck fun c1 => ?_
  refine zL_bdp (e := (if l2 < 0 then 0 else if 25 ≤ l2 then 0 else 1 : Int32)) (d_74_0 _ _ c1 c1) (m_27_ok _ _ _) ?_
  refine zL_ifm (d_74_14 _ _ _) (fun h => ?_) (fun h => ?_)
  · repeat rw [if_pos h]
    refine zL_ckt ?_
    exact zL_retv (d_74_29 _ _ _)
  · repeat rw [if_neg h]
    refine zL_ck fun c2 => ?_
    exact zL_retv (d_74_17 _ _ c2)
/-! X4_replayEntry -/
theorem d_75_0 {B : zeB} {im : Nat → Nat → Int32} {lm : Nat → Nat → Int64} (l2 : Int32) (o3 : Option Value) (o4 : Option Value) (c0 : zeInb l2 60 = true) : zeRun 75 0 [some (.ref 32), some (.ref 26), some (.int l2), o3, o4] [] (zk B im lm) = zeBh 75 11 [some (.ref 32), some (.ref 26), some (.int l2), some (.int (im 27 (Int32.toNatClampNeg l2))), o4] [] (zeRun 79 0 [some (.int (im 27 (Int32.toNatClampNeg l2)))] [] (zk B im lm)) := ze_call (ok := (zeInb l2 60 && true)) rfl 7 rfl rfl (zeA2 c0 rfl)
theorem d_75_11 {B : zeB} {im : Nat → Nat → Int32} {lm : Nat → Nat → Int64} (l2 : Int32) (l3 : Int32) (o4 : Option Value) (s0 : Int32)  : zeRun 75 11 [some (.ref 32), some (.ref 26), some (.int l2), some (.int l3), o4] [.int s0] (zk B im lm) = if s0 = 0 then zeRun 75 14 [some (.ref 32), some (.ref 26), some (.int l2), some (.int l3), o4] [] (zk B im lm) else zeRun 75 15 [some (.ref 32), some (.ref 26), some (.int l2), some (.int l3), o4] [] (zk B im lm) := ze_if (ok := true) rfl 1 rfl rfl
theorem d_75_14 {B : zeB} {im : Nat → Nat → Int32} {lm : Nat → Nat → Int64} (o0 : Option Value) (o1 : Option Value) (o2 : Option Value) (o3 : Option Value) (o4 : Option Value)  : zeRun 75 14 [o0, o1, o2, o3, o4] [] (zk B im lm) = some (none, (zk B im lm)) := ze_ret (ok := true) rfl 1 rfl rfl
theorem d_75_15 {B : zeB} {im : Nat → Nat → Int32} {lm : Nat → Nat → Int64} (l2 : Int32) (l3 : Int32) (o4 : Option Value) (c0 : zeInb l2 60 = true) (c1 : zeInb l2 60 = true) : zeRun 75 15 [some (.ref 32), some (.ref 26), some (.int l2), some (.int l3), o4] [] (zk B im lm) = if (im 28 (Int32.toNatClampNeg l2)) = 1 then zeRun 75 38 [some (.ref 32), some (.ref 26), some (.int l2), some (.int l3), some (.int (im 30 (Int32.toNatClampNeg l2)))] [.int l2, .ref 40] (zk B im lm) else zeRun 75 57 [some (.ref 32), some (.ref 26), some (.int l2), some (.int l3), some (.int (im 30 (Int32.toNatClampNeg l2)))] [.int l2, .ref 40] (zk B im lm) := ze_if (ok := (zeInb l2 60 && (zeInb l2 60 && true))) rfl 14 rfl (zeA2 c1 (zeA2 c0 rfl))
theorem d_75_38 {B : zeB} {im : Nat → Nat → Int32} {lm : Nat → Nat → Int64} (l2 : Int32) (l3 : Int32) (l4 : Int32) (s1 : Int32) (c0 : zeInb l2 60 = true) : zeRun 75 38 [some (.ref 32), some (.ref 26), some (.int l2), some (.int l3), some (.int l4)] [.int s1, .ref 40] (zk B im lm) = zeBh 75 48 [some (.ref 32), some (.ref 26), some (.int l2), some (.int l3), some (.int l4)] [.int s1, .ref 40] (zeRun 72 0 [some (.ref 32), some (.int (im 29 (Int32.toNatClampNeg l2)))] [] (zk B im lm)) := ze_call (ok := (zeInb l2 60 && true)) rfl 6 rfl rfl (zeA2 c0 rfl)
theorem d_75_48 {B : zeB} {im : Nat → Nat → Int32} {lm : Nat → Nat → Int64} (l2 : Int32) (l3 : Int32) (l4 : Int32) (s1 : Int32) (s2 : Int32)  : zeRun 75 48 [some (.ref 32), some (.ref 26), some (.int l2), some (.int l3), some (.int l4)] [.int s2, .int s1, .ref 40] (zk B im lm) = if s2 = (-10000005) then zeRun 75 57 [some (.ref 32), some (.ref 26), some (.int l2), some (.int l3), some (.int l4)] [.int s1, .ref 40] (zk B im lm) else zeRun 75 53 [some (.ref 32), some (.ref 26), some (.int l2), some (.int l3), some (.int l4)] [.int s1, .ref 40] (zk B im lm) := ze_if (ok := true) rfl 2 rfl rfl
theorem d_75_57 {B : zeB} {im : Nat → Nat → Int32} {lm : Nat → Nat → Int64} (l2 : Int32) (l3 : Int32) (l4 : Int32) (s1 : Int32)  : zeRun 75 57 [some (.ref 32), some (.ref 26), some (.int l2), some (.int l3), some (.int l4)] [.int s1, .ref 40] (zk B im lm) = zeRun 75 58 [some (.ref 32), some (.ref 26), some (.int l2), some (.int l3), some (.int l4)] [.int 0, .int s1, .ref 40] (zk B im lm) := ze_go (ok := true) rfl 1 rfl rfl
theorem d_75_53 {B : zeB} {im : Nat → Nat → Int32} {lm : Nat → Nat → Int64} (l2 : Int32) (l3 : Int32) (l4 : Int32) (s1 : Int32)  : zeRun 75 53 [some (.ref 32), some (.ref 26), some (.int l2), some (.int l3), some (.int l4)] [.int s1, .ref 40] (zk B im lm) = zeRun 75 58 [some (.ref 32), some (.ref 26), some (.int l2), some (.int l3), some (.int l4)] [.int 1, .int s1, .ref 40] (zk B im lm) := ze_go (ok := true) rfl 2 rfl rfl
theorem d_75_58 {B : zeB} {im : Nat → Nat → Int32} {lm : Nat → Nat → Int64} (l2 : Int32) (l3 : Int32) (l4 : Int32) (s1 : Int32) (s2 : Int32) (c0 : zeInb s1 60 = true) (c1 : zeInb l2 60 = true) : zeRun 75 58 [some (.ref 32), some (.ref 26), some (.int l2), some (.int l3), some (.int l4)] [.int s2, .int s1, .ref 40] (zk B im lm) = if ((zeU2 im 40 (Int32.toNatClampNeg s1) (vp_nar .boolean s2)) 40 (Int32.toNatClampNeg l2)) = 0 then zeRun 75 77 [some (.ref 32), some (.ref 26), some (.int l2), some (.int l3), some (.int l4)] [.int l2, .ref 38] (zk B (zeU2 im 40 (Int32.toNatClampNeg s1) (vp_nar .boolean s2)) lm) else zeRun 75 73 [some (.ref 32), some (.ref 26), some (.int l2), some (.int l3), some (.int l4)] [.int l2, .ref 38] (zk B (zeU2 im 40 (Int32.toNatClampNeg s1) (vp_nar .boolean s2)) lm) := ze_if (ok := (zeInb l2 60 && (zeInb s1 60 && true))) rfl 9 rfl (zeA2 c1 (zeA2 c0 rfl))
theorem d_75_77 {B : zeB} {im : Nat → Nat → Int32} {lm : Nat → Nat → Int64} (l2 : Int32) (l3 : Int32) (l4 : Int32) (s1 : Int32) (c0 : zeInb l2 60 = true) (c1 : zeInb l3 6 = true) : zeRun 75 77 [some (.ref 32), some (.ref 26), some (.int l2), some (.int l3), some (.int l4)] [.int s1, .ref 38] (zk B im lm) = zeBh 75 94 [some (.ref 32), some (.ref 26), some (.int l2), some (.int l3), some (.int l4)] [.int s1, .ref 38] (zeRun 73 0 [some (.int l4), some (.int (im 28 (Int32.toNatClampNeg l2))), some (.int (im 33 (Int32.toNatClampNeg l3)))] [] (zk B im lm)) := ze_call (ok := (zeInb l3 6 && (zeInb l2 60 && true))) rfl 10 rfl rfl (zeA2 c1 (zeA2 c0 rfl))
theorem d_75_73 {B : zeB} {im : Nat → Nat → Int32} {lm : Nat → Nat → Int64} (l2 : Int32) (l3 : Int32) (l4 : Int32) (s1 : Int32)  : zeRun 75 73 [some (.ref 32), some (.ref 26), some (.int l2), some (.int l3), some (.int l4)] [.int s1, .ref 38] (zk B im lm) = zeRun 75 94 [some (.ref 32), some (.ref 26), some (.int l2), some (.int l3), some (.int l4)] [.int 0, .int s1, .ref 38] (zk B im lm) := ze_go (ok := true) rfl 2 rfl rfl
theorem d_75_94 {B : zeB} {im : Nat → Nat → Int32} {lm : Nat → Nat → Int64} (l2 : Int32) (l3 : Int32) (l4 : Int32) (s1 : Int32) (s2 : Int32) (c0 : zeInb s1 60 = true) (c1 : zeInb l2 60 = true) : zeRun 75 94 [some (.ref 32), some (.ref 26), some (.int l2), some (.int l3), some (.int l4)] [.int s2, .int s1, .ref 38] (zk B im lm) = if (im 28 (Int32.toNatClampNeg l2)) = 4 then zeRun 75 105 [some (.ref 32), some (.ref 26), some (.int l2), some (.int l3), some (.int l4)] [] (zk B (zeU2 im 38 (Int32.toNatClampNeg s1) s2) lm) else zeRun 75 130 [some (.ref 32), some (.ref 26), some (.int l2), some (.int l3), some (.int l4)] [] (zk B (zeU2 im 38 (Int32.toNatClampNeg s1) s2) lm) := ze_if (ok := (zeInb l2 60 && (zeInb s1 60 && true))) rfl 7 rfl (zeA2 c1 (zeA2 c0 rfl))
theorem d_75_105 {B : zeB} {im : Nat → Nat → Int32} {lm : Nat → Nat → Int64} (o1 : Option Value) (l2 : Int32) (l3 : Int32) (l4 : Int32) (c0 : zeInb l3 6 = true) (c1 : zeInb l3 6 = true) (c2 : zeInb l3 6 = true) (c3 : zeInb l3 6 = true) : zeRun 75 105 [some (.ref 32), o1, some (.int l2), some (.int l3), some (.int l4)] [] (zk B im lm) = zeRun 75 212 [some (.ref 32), o1, some (.int l2), some (.int l3), some (.int l4)] [] (zk B (zeU2 (zeU2 im 33 (Int32.toNatClampNeg l3) ((im 33 (Int32.toNatClampNeg l3)) + l4)) 36 (Int32.toNatClampNeg l3) ((im 36 (Int32.toNatClampNeg l3)) + l4)) lm) := ze_go (ok := (zeInb l3 6 && (zeInb l3 6 && (zeInb l3 6 && (zeInb l3 6 && true))))) rfl 17 rfl (zeA2 c3 (zeA2 c2 (zeA2 c1 (zeA2 c0 rfl))))
theorem d_75_130 {B : zeB} {im : Nat → Nat → Int32} {lm : Nat → Nat → Int64} (l2 : Int32) (l3 : Int32) (o4 : Option Value) (c0 : zeInb l2 60 = true) : zeRun 75 130 [some (.ref 32), some (.ref 26), some (.int l2), some (.int l3), o4] [] (zk B im lm) = if (im 31 (Int32.toNatClampNeg l2)) = 1 then zeRun 75 140 [some (.ref 32), some (.ref 26), some (.int l2), some (.int l3), o4] [] (zk B im lm) else zeRun 75 178 [some (.ref 32), some (.ref 26), some (.int l2), some (.int l3), o4] [] (zk B im lm) := ze_if (ok := (zeInb l2 60 && true)) rfl 6 rfl (zeA2 c0 rfl)
theorem d_75_140 {B : zeB} {im : Nat → Nat → Int32} {lm : Nat → Nat → Int64} (l2 : Int32) (l3 : Int32) (o4 : Option Value) (c0 : zeInb l3 6 = true) (c1 : zeInb l2 60 = true) (c2 : zeInb l3 6 = true) (c3 : zeInb l2 60 = true) : zeRun 75 140 [some (.ref 32), some (.ref 26), some (.int l2), some (.int l3), o4] [] (zk B im lm) = if (im 40 (Int32.toNatClampNeg l2)) = 0 then zeRun 75 164 [some (.ref 32), some (.ref 26), some (.int l2), some (.int l3), o4] [] (zk B (zeU2 im 33 (Int32.toNatClampNeg l3) ((im 33 (Int32.toNatClampNeg l3)) + (im 38 (Int32.toNatClampNeg l2)))) lm) else zeRun 75 212 [some (.ref 32), some (.ref 26), some (.int l2), some (.int l3), o4] [] (zk B (zeU2 im 33 (Int32.toNatClampNeg l3) ((im 33 (Int32.toNatClampNeg l3)) + (im 38 (Int32.toNatClampNeg l2)))) lm) := ze_if (ok := (zeInb l2 60 && (zeInb l3 6 && (zeInb l2 60 && (zeInb l3 6 && true))))) rfl 16 rfl (zeA2 c3 (zeA2 c2 (zeA2 c1 (zeA2 c0 rfl))))
theorem d_75_164 {B : zeB} {im : Nat → Nat → Int32} {lm : Nat → Nat → Int64} (l2 : Int32) (l3 : Int32) (o4 : Option Value) (c0 : zeInb l2 60 = true) : zeRun 75 164 [some (.ref 32), some (.ref 26), some (.int l2), some (.int l3), o4] [] (zk B im lm) = zeBh 75 175 [some (.ref 32), some (.ref 26), some (.int l2), some (.int l3), o4] [] (zeRun 74 0 [some (.ref 32), some (.int l3), some (.int (im 29 (Int32.toNatClampNeg l2)))] [] (zk B im lm)) := ze_call (ok := (zeInb l2 60 && true)) rfl 7 rfl rfl (zeA2 c0 rfl)
theorem d_75_175 {B : zeB} {im : Nat → Nat → Int32} {lm : Nat → Nat → Int64} (o1 : Option Value) (l2 : Int32) (l3 : Int32) (o4 : Option Value)  : zeRun 75 175 [some (.ref 32), o1, some (.int l2), some (.int l3), o4] [] (zk B im lm) = zeRun 75 212 [some (.ref 32), o1, some (.int l2), some (.int l3), o4] [] (zk B im lm) := ze_go (ok := true) rfl 1 rfl rfl
theorem d_75_178 {B : zeB} {im : Nat → Nat → Int32} {lm : Nat → Nat → Int64} (o1 : Option Value) (l2 : Int32) (l3 : Int32) (o4 : Option Value) (c0 : zeInb l3 6 = true) (c1 : zeInb l2 60 = true) (c2 : zeInb l3 6 = true) (c3 : zeInb l2 60 = true) : zeRun 75 178 [some (.ref 32), o1, some (.int l2), some (.int l3), o4] [] (zk B im lm) = if (im 40 (Int32.toNatClampNeg l2)) = 0 then zeRun 75 202 [some (.ref 32), o1, some (.int l2), some (.int l3), o4] [] (zk B (zeU2 im 33 (Int32.toNatClampNeg l3) ((im 33 (Int32.toNatClampNeg l3)) - (im 38 (Int32.toNatClampNeg l2)))) lm) else zeRun 75 212 [some (.ref 32), o1, some (.int l2), some (.int l3), o4] [] (zk B (zeU2 im 33 (Int32.toNatClampNeg l3) ((im 33 (Int32.toNatClampNeg l3)) - (im 38 (Int32.toNatClampNeg l2)))) lm) := ze_if (ok := (zeInb l2 60 && (zeInb l3 6 && (zeInb l2 60 && (zeInb l3 6 && true))))) rfl 16 rfl (zeA2 c3 (zeA2 c2 (zeA2 c1 (zeA2 c0 rfl))))
theorem d_75_202 {B : zeB} {im : Nat → Nat → Int32} {lm : Nat → Nat → Int64} (o1 : Option Value) (l2 : Int32) (l3 : Int32) (o4 : Option Value) (c0 : zeInb l3 6 = true) (c1 : zeInb l3 6 = true) : zeRun 75 202 [some (.ref 32), o1, some (.int l2), some (.int l3), o4] [] (zk B im lm) = zeRun 75 212 [some (.ref 32), o1, some (.int l2), some (.int l3), o4] [] (zk B (zeU2 im 35 (Int32.toNatClampNeg l3) ((im 35 (Int32.toNatClampNeg l3)) + 1)) lm) := ze_go (ok := (zeInb l3 6 && (zeInb l3 6 && true))) rfl 8 rfl (zeA2 c1 (zeA2 c0 rfl))
theorem d_75_212 {B : zeB} {im : Nat → Nat → Int32} {lm : Nat → Nat → Int64} (o1 : Option Value) (l2 : Int32) (l3 : Int32) (o4 : Option Value) (c0 : zeInb l3 6 = true) (c1 : zeInb l2 60 = true) : zeRun 75 212 [some (.ref 32), o1, some (.int l2), some (.int l3), o4] [] (zk B im lm) = some (none, (zk B (zeU2 im 39 (Int32.toNatClampNeg l2) (im 33 (Int32.toNatClampNeg l3))) lm)) := ze_ret (ok := (zeInb l2 60 && (zeInb l3 6 && true))) rfl 9 rfl (zeA2 c1 (zeA2 c0 rfl))
def J_75_212  (l2 : Int32) (l3 : Int32) (im : zI) (lm : zJ) : zR :=
    zCk (zeInb l3 6) <|
    zCk (zeInb l2 60) <|
    some (0, (zeU2 im 39 (Int32.toNatClampNeg l2) (im 33 (Int32.toNatClampNeg l3))), lm)
theorem J_75_212_ok {B : zeB} (l2 : Int32) (l3 : Int32) (o1 : Option Value) (o4 : Option Value) (im : zI) (lm : zJ) : zL B 0 (J_75_212  l2 l3 im lm) (zeRun 75 212 [some (.ref 32), o1, some (.int l2), some (.int l3), o4] [] (zk B im lm)) := by
  unfold J_75_212
  refine zL_ck fun c1 => ?_
  refine zL_ck fun c2 => ?_
  exact zL_retv (d_75_212 _ _ _ _ c1 c2)
def J_75_94  (l2 : Int32) (l3 : Int32) (l4 : Int32) (s1 : Int32) (s2 : Int32) (im : zI) (lm : zJ) : zR :=
    zCk (zeInb s1 60) <|
    zCk (zeInb l2 60) <|
    if (im 28 (Int32.toNatClampNeg l2)) = 4 then
      zCk (zeInb l3 6) <|
      J_75_212   l2 l3 (zeU2 (zeU2 (zeU2 im 38 (Int32.toNatClampNeg s1) s2) 33 (Int32.toNatClampNeg l3) (((zeU2 im 38 (Int32.toNatClampNeg s1) s2) 33 (Int32.toNatClampNeg l3)) + l4)) 36 (Int32.toNatClampNeg l3) (((zeU2 im 38 (Int32.toNatClampNeg s1) s2) 36 (Int32.toNatClampNeg l3)) + l4)) lm
    else
      if ((zeU2 im 38 (Int32.toNatClampNeg s1) s2) 31 (Int32.toNatClampNeg l2)) = 1 then
        zCk (zeInb l3 6) <|
        if ((zeU2 im 38 (Int32.toNatClampNeg s1) s2) 40 (Int32.toNatClampNeg l2)) = 0 then
          zBd (m_74 l3 ((zeU2 (zeU2 im 38 (Int32.toNatClampNeg s1) s2) 33 (Int32.toNatClampNeg l3) (((zeU2 im 38 (Int32.toNatClampNeg s1) s2) 33 (Int32.toNatClampNeg l3)) + ((zeU2 im 38 (Int32.toNatClampNeg s1) s2) 38 (Int32.toNatClampNeg l2)))) 29 (Int32.toNatClampNeg l2)) (zeU2 (zeU2 im 38 (Int32.toNatClampNeg s1) s2) 33 (Int32.toNatClampNeg l3) (((zeU2 im 38 (Int32.toNatClampNeg s1) s2) 33 (Int32.toNatClampNeg l3)) + ((zeU2 im 38 (Int32.toNatClampNeg s1) s2) 38 (Int32.toNatClampNeg l2)))) lm) fun _ im1 lm1 =>
          J_75_212   l2 l3 im1 lm1
        else
          J_75_212   l2 l3 (zeU2 (zeU2 im 38 (Int32.toNatClampNeg s1) s2) 33 (Int32.toNatClampNeg l3) (((zeU2 im 38 (Int32.toNatClampNeg s1) s2) 33 (Int32.toNatClampNeg l3)) + ((zeU2 im 38 (Int32.toNatClampNeg s1) s2) 38 (Int32.toNatClampNeg l2)))) lm
      else
        zCk (zeInb l3 6) <|
        J_75_212   l2 l3 (if ((zeU2 im 38 (Int32.toNatClampNeg s1) s2) 40 (Int32.toNatClampNeg l2)) = 0 then (zeU2 (zeU2 (zeU2 im 38 (Int32.toNatClampNeg s1) s2) 33 (Int32.toNatClampNeg l3) (((zeU2 im 38 (Int32.toNatClampNeg s1) s2) 33 (Int32.toNatClampNeg l3)) - ((zeU2 im 38 (Int32.toNatClampNeg s1) s2) 38 (Int32.toNatClampNeg l2)))) 35 (Int32.toNatClampNeg l3) (((zeU2 (zeU2 im 38 (Int32.toNatClampNeg s1) s2) 33 (Int32.toNatClampNeg l3) (((zeU2 im 38 (Int32.toNatClampNeg s1) s2) 33 (Int32.toNatClampNeg l3)) - ((zeU2 im 38 (Int32.toNatClampNeg s1) s2) 38 (Int32.toNatClampNeg l2)))) 35 (Int32.toNatClampNeg l3)) + 1)) else (zeU2 (zeU2 im 38 (Int32.toNatClampNeg s1) s2) 33 (Int32.toNatClampNeg l3) (((zeU2 im 38 (Int32.toNatClampNeg s1) s2) 33 (Int32.toNatClampNeg l3)) - ((zeU2 im 38 (Int32.toNatClampNeg s1) s2) 38 (Int32.toNatClampNeg l2))))) lm
theorem J_75_94_ok {B : zeB} (l2 : Int32) (l3 : Int32) (l4 : Int32) (s1 : Int32) (s2 : Int32)  (im : zI) (lm : zJ) : zL B 0 (J_75_94  l2 l3 l4 s1 s2 im lm) (zeRun 75 94 [some (.ref 32), some (.ref 26), some (.int l2), some (.int l3), some (.int l4)] [.int s2, .int s1, .ref 38] (zk B im lm)) := by
  unfold J_75_94
  refine zL_ck fun c1 => ?_
  refine zL_ck fun c2 => ?_
  refine zL_if (d_75_94 _ _ _ _ _ c1 c2) (fun h => ?_) (fun h => ?_)
  · skip
    refine zL_ck fun c3 => ?_
    refine zL_eq (d_75_105 _ _ _ _ c3 c3 c3 c3) ?_
    exact J_75_212_ok   _ _ _ _ _ _
  · skip
    refine zL_if (d_75_130 _ _ _ c2) (fun h => ?_) (fun h => ?_)
    · skip
      refine zL_ck fun c4 => ?_
      refine zL_if (d_75_140 _ _ _ c4 c2 c4 c2) (fun h => ?_) (fun h => ?_)
      · skip
        refine zL_bdv (d_75_164 _ _ _ c2) (m_74_ok _ _ _ _) fun _ im1 lm1 => ?_
        refine zL_eq (d_75_175 _ _ _ _) ?_
        exact J_75_212_ok   _ _ _ _ _ _
      · skip
        exact J_75_212_ok   _ _ _ _ _ _
    · skip
      refine zL_ck fun c5 => ?_
      refine zL_ifm (d_75_178 _ _ _ _ c5 c2 c5 c2) (fun h => ?_) (fun h => ?_)
      · repeat rw [if_pos h]
        refine zL_eq (d_75_202 _ _ _ _ c5 c5) ?_
        exact J_75_212_ok   _ _ _ _ _ _
      · repeat rw [if_neg h]
        exact J_75_212_ok   _ _ _ _ _ _
def J_75_58  (l2 : Int32) (l3 : Int32) (l4 : Int32) (s1 : Int32) (s2 : Int32) (im : zI) (lm : zJ) : zR :=
    zCk (zeInb s1 60) <|
    zCk (zeInb l2 60) <|
    zCk (if ((zeU2 im 40 (Int32.toNatClampNeg s1) (vp_nar .boolean s2)) 40 (Int32.toNatClampNeg l2)) = 0 then zeInb l3 6 else true) <|
    J_75_94   l2 l3 l4 l2 (if ((zeU2 im 40 (Int32.toNatClampNeg s1) (vp_nar .boolean s2)) 40 (Int32.toNatClampNeg l2)) = 0 then (if ((zeU2 im 40 (Int32.toNatClampNeg s1) (vp_nar .boolean s2)) 28 (Int32.toNatClampNeg l2)) = 2 then (if (if ((zeU2 im 40 (Int32.toNatClampNeg s1) (vp_nar .boolean s2)) 33 (Int32.toNatClampNeg l3)) < 500 then 500 else ((zeU2 im 40 (Int32.toNatClampNeg s1) (vp_nar .boolean s2)) 33 (Int32.toNatClampNeg l3))) < l4 then (if ((zeU2 im 40 (Int32.toNatClampNeg s1) (vp_nar .boolean s2)) 33 (Int32.toNatClampNeg l3)) < 500 then 500 else ((zeU2 im 40 (Int32.toNatClampNeg s1) (vp_nar .boolean s2)) 33 (Int32.toNatClampNeg l3))) else l4) else if ((zeU2 im 40 (Int32.toNatClampNeg s1) (vp_nar .boolean s2)) 28 (Int32.toNatClampNeg l2)) = 3 then (if (if ((zeU2 im 40 (Int32.toNatClampNeg s1) (vp_nar .boolean s2)) 33 (Int32.toNatClampNeg l3)) < 0 then 0 else ((zeU2 im 40 (Int32.toNatClampNeg s1) (vp_nar .boolean s2)) 33 (Int32.toNatClampNeg l3))) < l4 then (if ((zeU2 im 40 (Int32.toNatClampNeg s1) (vp_nar .boolean s2)) 33 (Int32.toNatClampNeg l3)) < 0 then 0 else ((zeU2 im 40 (Int32.toNatClampNeg s1) (vp_nar .boolean s2)) 33 (Int32.toNatClampNeg l3))) else l4) else l4 : Int32) else 0) (zeU2 im 40 (Int32.toNatClampNeg s1) (vp_nar .boolean s2)) lm
theorem J_75_58_ok {B : zeB} (l2 : Int32) (l3 : Int32) (l4 : Int32) (s1 : Int32) (s2 : Int32)  (im : zI) (lm : zJ) : zL B 0 (J_75_58  l2 l3 l4 s1 s2 im lm) (zeRun 75 58 [some (.ref 32), some (.ref 26), some (.int l2), some (.int l3), some (.int l4)] [.int s2, .int s1, .ref 40] (zk B im lm)) := by
  unfold J_75_58
  refine zL_ck fun c1 => ?_
  refine zL_ck fun c2 => ?_
  refine zL_ifm (d_75_58 _ _ _ _ _ c1 c2) (fun h => ?_) (fun h => ?_)
  · repeat rw [if_pos h]
    refine zL_ck fun c3 => ?_
    refine zL_bdp (e := (if ((zeU2 im 40 (Int32.toNatClampNeg s1) (vp_nar .boolean s2)) 28 (Int32.toNatClampNeg l2)) = 2 then (if (if ((zeU2 im 40 (Int32.toNatClampNeg s1) (vp_nar .boolean s2)) 33 (Int32.toNatClampNeg l3)) < 500 then 500 else ((zeU2 im 40 (Int32.toNatClampNeg s1) (vp_nar .boolean s2)) 33 (Int32.toNatClampNeg l3))) < l4 then (if ((zeU2 im 40 (Int32.toNatClampNeg s1) (vp_nar .boolean s2)) 33 (Int32.toNatClampNeg l3)) < 500 then 500 else ((zeU2 im 40 (Int32.toNatClampNeg s1) (vp_nar .boolean s2)) 33 (Int32.toNatClampNeg l3))) else l4) else if ((zeU2 im 40 (Int32.toNatClampNeg s1) (vp_nar .boolean s2)) 28 (Int32.toNatClampNeg l2)) = 3 then (if (if ((zeU2 im 40 (Int32.toNatClampNeg s1) (vp_nar .boolean s2)) 33 (Int32.toNatClampNeg l3)) < 0 then 0 else ((zeU2 im 40 (Int32.toNatClampNeg s1) (vp_nar .boolean s2)) 33 (Int32.toNatClampNeg l3))) < l4 then (if ((zeU2 im 40 (Int32.toNatClampNeg s1) (vp_nar .boolean s2)) 33 (Int32.toNatClampNeg l3)) < 0 then 0 else ((zeU2 im 40 (Int32.toNatClampNeg s1) (vp_nar .boolean s2)) 33 (Int32.toNatClampNeg l3))) else l4) else l4 : Int32)) (d_75_77 _ _ _ _ c2 c3) (m_73_ok _ _ _ _ _) ?_
    exact J_75_94_ok   _ _ _ _ _ _ _
  · repeat rw [if_neg h]
    refine zL_eq (d_75_73 _ _ _ _) ?_
    refine zL_ckt ?_
    exact J_75_94_ok   _ _ _ _ _ _ _
def m_75 (l2 : Int32) (im : zI) (lm : zJ) : zR :=
    zCk (zeInb l2 60) <|
    if (if (im 27 (Int32.toNatClampNeg l2)) < 0 then 0 else if 6 ≤ (im 27 (Int32.toNatClampNeg l2)) then 0 else 1 : Int32) = 0 then
      some (0, im, lm)
    else
      if (im 28 (Int32.toNatClampNeg l2)) = 1 then
        zBd (m_72 (im 29 (Int32.toNatClampNeg l2)) im lm) fun v2 im2 lm2 =>
        J_75_58   l2 (im 27 (Int32.toNatClampNeg l2)) (im 30 (Int32.toNatClampNeg l2)) l2 (if v2 = (-10000005) then 0 else 1) im2 lm2
      else
        J_75_58   l2 (im 27 (Int32.toNatClampNeg l2)) (im 30 (Int32.toNatClampNeg l2)) l2 0 im lm
theorem m_75_ok {B : zeB} (l2 : Int32) (im : zI) (lm : zJ) : zL B 0 (m_75 l2 im lm) (zeRun 75 0 [some (.ref 32), some (.ref 26), some (.int l2), none, none] [] (zk B im lm)) := by
  unfold m_75
  refine zL_ck fun c1 => ?_
  refine zL_bdp (e := (if (im 27 (Int32.toNatClampNeg l2)) < 0 then 0 else if 6 ≤ (im 27 (Int32.toNatClampNeg l2)) then 0 else 1 : Int32)) (d_75_0 _ _ _ c1) (m_79_ok _ _ _) ?_
  refine zL_if (d_75_11 _ _ _ _) (fun h => ?_) (fun h => ?_)
  · skip
    exact zL_retv (d_75_14 _ _ _ _ _)
  · skip
    refine zL_if (d_75_15 _ _ _ c1 c1) (fun h => ?_) (fun h => ?_)
    · skip
      refine zL_bd (d_75_38 _ _ _ _ c1) (m_72_ok _ _ _) fun v2 im2 lm2 => ?_
      refine zL_ifm (d_75_48 _ _ _ _ _) (fun h => ?_) (fun h => ?_)
      · repeat rw [if_pos h]
        refine zL_eq (d_75_57 _ _ _ _) ?_
        exact J_75_58_ok   _ _ _ _ _ _ _
      · repeat rw [if_neg h]
        refine zL_eq (d_75_53 _ _ _ _) ?_
        exact J_75_58_ok   _ _ _ _ _ _ _
    · skip
      refine zL_eq (d_75_57 _ _ _ _) ?_
      exact J_75_58_ok   _ _ _ _ _ _ _
/-! X4_run -/
theorem d_76_0 {B : zeB} {im : Nat → Nat → Int32} {lm : Nat → Nat → Int64} (o2 : Option Value)  : zeRun 76 0 [some (.ref 32), some (.ref 26), o2] [] (zk B im lm) = zeRun 76 7 [some (.ref 32), some (.ref 26), some (.int 0)] [] (zk B (zeU2 im 32 0 0) lm) := ze_go (ok := true) rfl 5 rfl rfl
theorem d_76_7 {B : zeB} {im : Nat → Nat → Int32} {lm : Nat → Nat → Int64} (l2 : Int32)  : zeRun 76 7 [some (.ref 32), some (.ref 26), some (.int l2)] [] (zk B im lm) = if 6 ≤ l2 then zeRun 76 47 [some (.ref 32), some (.ref 26), some (.int l2)] [] (zk B im lm) else zeRun 76 13 [some (.ref 32), some (.ref 26), some (.int l2)] [] (zk B im lm) := ze_if (ok := true) rfl 3 rfl rfl
theorem d_76_47 {B : zeB} {im : Nat → Nat → Int32} {lm : Nat → Nat → Int64} (o2 : Option Value)  : zeRun 76 47 [some (.ref 32), some (.ref 26), o2] [] (zk B im lm) = zeRun 76 49 [some (.ref 32), some (.ref 26), some (.int 0)] [] (zk B im lm) := ze_go (ok := true) rfl 2 rfl rfl
theorem d_76_13 {B : zeB} {im : Nat → Nat → Int32} {lm : Nat → Nat → Int64} (l2 : Int32) (c0 : zeInb l2 6 = true) (c1 : zeInb l2 6 = true) (c2 : zeInb l2 6 = true) (c3 : zeInb l2 6 = true) : zeRun 76 13 [some (.ref 32), some (.ref 26), some (.int l2)] [] (zk B im lm) = zeRun 76 7 [some (.ref 32), some (.ref 26), some (.int (l2 + 1))] [] (zk B (zeU2 (zeU2 (zeU2 (zeU2 im 33 (Int32.toNatClampNeg l2) 0) 34 (Int32.toNatClampNeg l2) 0) 35 (Int32.toNatClampNeg l2) 0) 36 (Int32.toNatClampNeg l2) 0) lm) := ze_go (ok := (zeInb l2 6 && (zeInb l2 6 && (zeInb l2 6 && (zeInb l2 6 && true))))) rfl 22 rfl (zeA2 c3 (zeA2 c2 (zeA2 c1 (zeA2 c0 rfl))))
theorem d_76_49 {B : zeB} {im : Nat → Nat → Int32} {lm : Nat → Nat → Int64} (l2 : Int32)  : zeRun 76 49 [some (.ref 32), some (.ref 26), some (.int l2)] [] (zk B im lm) = if 25 ≤ l2 then zeRun 76 69 [some (.ref 32), some (.ref 26), some (.int l2)] [] (zk B im lm) else zeRun 76 55 [some (.ref 32), some (.ref 26), some (.int l2)] [] (zk B im lm) := ze_if (ok := true) rfl 3 rfl rfl
theorem d_76_69 {B : zeB} {im : Nat → Nat → Int32} {lm : Nat → Nat → Int64} (o2 : Option Value)  : zeRun 76 69 [some (.ref 32), some (.ref 26), o2] [] (zk B im lm) = zeRun 76 71 [some (.ref 32), some (.ref 26), some (.int 0)] [] (zk B im lm) := ze_go (ok := true) rfl 2 rfl rfl
theorem d_76_55 {B : zeB} {im : Nat → Nat → Int32} {lm : Nat → Nat → Int64} (l2 : Int32) (c0 : zeInb l2 25 = true) : zeRun 76 55 [some (.ref 32), some (.ref 26), some (.int l2)] [] (zk B im lm) = zeRun 76 49 [some (.ref 32), some (.ref 26), some (.int (l2 + 1))] [] (zk B (zeU2 im 37 (Int32.toNatClampNeg l2) (-10000005)) lm) := ze_go (ok := (zeInb l2 25 && true)) rfl 7 rfl (zeA2 c0 rfl)
theorem d_76_71 {B : zeB} {im : Nat → Nat → Int32} {lm : Nat → Nat → Int64} (l2 : Int32)  : zeRun 76 71 [some (.ref 32), some (.ref 26), some (.int l2)] [] (zk B im lm) = if (im 26 0) ≤ l2 then zeRun 76 91 [some (.ref 32), some (.ref 26), some (.int l2)] [] (zk B im lm) else zeRun 76 79 [some (.ref 32), some (.ref 26), some (.int l2)] [] (zk B im lm) := ze_if (ok := true) rfl 4 rfl rfl
theorem d_76_91 {B : zeB} {im : Nat → Nat → Int32} {lm : Nat → Nat → Int64} (o0 : Option Value) (o1 : Option Value) (o2 : Option Value)  : zeRun 76 91 [o0, o1, o2] [] (zk B im lm) = some (none, (zk B im lm)) := ze_ret (ok := true) rfl 1 rfl rfl
theorem d_76_79 {B : zeB} {im : Nat → Nat → Int32} {lm : Nat → Nat → Int64} (l2 : Int32)  : zeRun 76 79 [some (.ref 32), some (.ref 26), some (.int l2)] [] (zk B im lm) = zeBh 76 85 [some (.ref 32), some (.ref 26), some (.int l2)] [] (zeRun 75 0 [some (.ref 32), some (.ref 26), some (.int l2), none, none] [] (zk B im lm)) := ze_call (ok := true) rfl 4 rfl rfl rfl
theorem d_76_85 {B : zeB} {im : Nat → Nat → Int32} {lm : Nat → Nat → Int64} (l2 : Int32)  : zeRun 76 85 [some (.ref 32), some (.ref 26), some (.int l2)] [] (zk B im lm) = zeRun 76 71 [some (.ref 32), some (.ref 26), some (.int (l2 + 1))] [] (zk B im lm) := ze_go (ok := true) rfl 2 rfl rfl
def F_76_71  : Nat → Int32 → zI → zJ → zR
  | 0, _, _, _ => none
  | n + 1, l2, im, lm =>
    if (im 26 0) ≤ l2 then
      some (0, im, lm)
    else
      zBd (m_75 l2 im lm) fun _ im1 lm1 =>
      F_76_71  n (l2 + 1) im1 lm1
theorem F_76_71_ok {B : zeB} : ∀ (n : Nat) (l2 : Int32)  (im : zI) (lm : zJ), zL B 0 (F_76_71  n l2 im lm) (zeRun 76 71 [some (.ref 32), some (.ref 26), some (.int l2)] [] (zk B im lm)) := by
  intro n
  induction n with
  | zero => intros; exact zL_none
  | succ n ih =>
    intro l2 im lm
    unfold F_76_71
    refine zL_if (d_76_71 _) (fun h => ?_) (fun h => ?_)
    · skip
      exact zL_retv (d_76_91 _ _ _)
    · skip
      refine zL_bdv (d_76_79 _) (m_75_ok _ _ _) fun _ im1 lm1 => ?_
      refine zL_eq (d_76_85 _) ?_
      exact ih _ _ _
def F_76_49  : Nat → Int32 → zI → zJ → zR
  | 0, _, _, _ => none
  | n + 1, l2, im, lm =>
    if 25 ≤ l2 then
      F_76_71  2000 0 im lm
    else
      zCk (zeInb l2 25) <|
      F_76_49  n (l2 + 1) (zeU2 im 37 (Int32.toNatClampNeg l2) (-10000005)) lm
theorem F_76_49_ok {B : zeB} : ∀ (n : Nat) (l2 : Int32)  (im : zI) (lm : zJ), zL B 0 (F_76_49  n l2 im lm) (zeRun 76 49 [some (.ref 32), some (.ref 26), some (.int l2)] [] (zk B im lm)) := by
  intro n
  induction n with
  | zero => intros; exact zL_none
  | succ n ih =>
    intro l2 im lm
    unfold F_76_49
    refine zL_if (d_76_49 _) (fun h => ?_) (fun h => ?_)
    · skip
      refine zL_eq (d_76_69 _) ?_
      exact F_76_71_ok  _ _ _ _
    · skip
      refine zL_ck fun c1 => ?_
      refine zL_eq (d_76_55 _ c1) ?_
      exact ih _ _ _
def F_76_7  : Nat → Int32 → zI → zJ → zR
  | 0, _, _, _ => none
  | n + 1, l2, im, lm =>
    if 6 ≤ l2 then
      F_76_49  2000 0 im lm
    else
      zCk (zeInb l2 6) <|
      F_76_7  n (l2 + 1) (zeU2 (zeU2 (zeU2 (zeU2 im 33 (Int32.toNatClampNeg l2) 0) 34 (Int32.toNatClampNeg l2) 0) 35 (Int32.toNatClampNeg l2) 0) 36 (Int32.toNatClampNeg l2) 0) lm
theorem F_76_7_ok {B : zeB} : ∀ (n : Nat) (l2 : Int32)  (im : zI) (lm : zJ), zL B 0 (F_76_7  n l2 im lm) (zeRun 76 7 [some (.ref 32), some (.ref 26), some (.int l2)] [] (zk B im lm)) := by
  intro n
  induction n with
  | zero => intros; exact zL_none
  | succ n ih =>
    intro l2 im lm
    unfold F_76_7
    refine zL_if (d_76_7 _) (fun h => ?_) (fun h => ?_)
    · skip
      refine zL_eq (d_76_47 _) ?_
      exact F_76_49_ok  _ _ _ _
    · skip
      refine zL_ck fun c1 => ?_
      refine zL_eq (d_76_13 _ c1 c1 c1 c1) ?_
      exact ih _ _ _
def m_76  (im : zI) (lm : zJ) : zR :=
    F_76_7  2000 0 (zeU2 im 32 0 0) lm
theorem m_76_ok {B : zeB}  (im : zI) (lm : zJ) : zL B 0 (m_76  im lm) (zeRun 76 0 [some (.ref 32), some (.ref 26), none] [] (zk B im lm)) := by
  unfold m_76
  refine zL_eq (d_76_0 _) ?_
  exact F_76_7_ok  _ _ _ _
/-! X4_scoreOf -/
theorem d_137_0 {B : zeB} {im : Nat → Nat → Int32} {lm : Nat → Nat → Int64} (l1 : Int32)  : zeRun 137 0 [some (.ref 32), some (.int l1)] [] (zk B im lm) = zeBh 137 4 [some (.ref 32), some (.int l1)] [] (zeRun 79 0 [some (.int l1)] [] (zk B im lm)) := ze_call (ok := true) rfl 2 rfl rfl rfl
theorem d_137_4 {B : zeB} {im : Nat → Nat → Int32} {lm : Nat → Nat → Int64} (l1 : Int32) (s0 : Int32)  : zeRun 137 4 [some (.ref 32), some (.int l1)] [.int s0] (zk B im lm) = if s0 = 0 then zeRun 137 16 [some (.ref 32), some (.int l1)] [] (zk B im lm) else zeRun 137 7 [some (.ref 32), some (.int l1)] [] (zk B im lm) := ze_if (ok := true) rfl 1 rfl rfl
theorem d_137_16 {B : zeB} {im : Nat → Nat → Int32} {lm : Nat → Nat → Int64} (o0 : Option Value) (o1 : Option Value)  : zeRun 137 16 [o0, o1] [] (zk B im lm) = some (some (.int 0), (zk B im lm)) := ze_ret (ok := true) rfl 2 rfl rfl
theorem d_137_7 {B : zeB} {im : Nat → Nat → Int32} {lm : Nat → Nat → Int64} (l1 : Int32) (c0 : zeInb l1 6 = true) : zeRun 137 7 [some (.ref 32), some (.int l1)] [] (zk B im lm) = some (some (.int (im 33 (Int32.toNatClampNeg l1))), (zk B im lm)) := ze_ret (ok := (zeInb l1 6 && true)) rfl 6 rfl (zeA2 c0 rfl)
def m_137 (l1 : Int32) (im : zI) (lm : zJ) : zR :=
    zCk (if (if l1 < 0 then 0 else if 6 ≤ l1 then 0 else 1 : Int32) = 0 then true else zeInb l1 6) <|
    some (if (if l1 < 0 then 0 else if 6 ≤ l1 then 0 else 1 : Int32) = 0 then 0 else (im 33 (Int32.toNatClampNeg l1)), im, lm)
theorem m_137_ok {B : zeB} (l1 : Int32) (im : zI) (lm : zJ) : zL B 1 (m_137 l1 im lm) (zeRun 137 0 [some (.ref 32), some (.int l1)] [] (zk B im lm)) := by
  unfold m_137
  refine zL_bdp (e := (if l1 < 0 then 0 else if 6 ≤ l1 then 0 else 1 : Int32)) (d_137_0 _) (m_79_ok _ _ _) ?_
  refine zL_ifm (d_137_4 _ _) (fun h => ?_) (fun h => ?_)
  · repeat rw [if_pos h]
    refine zL_ckt ?_
    exact zL_ret (d_137_16 _ _)
  · repeat rw [if_neg h]
    refine zL_ck fun c1 => ?_
    exact zL_ret (d_137_7 _ c1)
/-! X7_replayedScore -/
theorem d_77_0 {B : zeB} {im : Nat → Nat → Int32} {lm : Nat → Nat → Int64} (l1 : Int32)  : zeRun 77 0 [some (.ref 16), some (.int l1)] [] (zk B im lm) = zeBh 77 14 [some (.ref 16), some (.int l1)] [] (zeRun 76 0 [some (.ref 32), some (.ref 26), none] [] (zk B im lm)) := ze_call (ok := true) rfl 6 rfl rfl rfl
theorem d_77_14 {B : zeB} {im : Nat → Nat → Int32} {lm : Nat → Nat → Int64} (l1 : Int32)  : zeRun 77 14 [some (.ref 16), some (.int l1)] [] (zk B im lm) = zeBh 77 22 [some (.ref 16), some (.int l1)] [] (zeRun 137 0 [some (.ref 32), some (.int l1)] [] (zk B im lm)) := ze_call (ok := true) rfl 4 rfl rfl rfl
theorem d_77_22 {B : zeB} {im : Nat → Nat → Int32} {lm : Nat → Nat → Int64} (o0 : Option Value) (o1 : Option Value) (s0 : Int32)  : zeRun 77 22 [o0, o1] [.int s0] (zk B im lm) = some (some (.int s0), (zk B im lm)) := ze_ret (ok := true) rfl 1 rfl rfl
def m_77 (l1 : Int32) (im : zI) (lm : zJ) : zR :=
    zBd (m_76  im lm) fun _ im1 lm1 =>
    zBd (m_137 l1 im1 lm1) fun v2 im2 lm2 =>
    some (v2, im2, lm2)
theorem m_77_ok {B : zeB} (l1 : Int32) (im : zI) (lm : zJ) : zL B 1 (m_77 l1 im lm) (zeRun 77 0 [some (.ref 16), some (.int l1)] [] (zk B im lm)) := by
  unfold m_77
  refine zL_bdv (d_77_0 _) (m_76_ok _ _) fun _ im1 lm1 => ?_
  refine zL_bd (d_77_14 _) (m_137_ok _ _ _) fun v2 im2 lm2 => ?_
  exact zL_ret (d_77_22 _ _ _)
