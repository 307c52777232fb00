/-! pure: X0_nextToAnswer, X0_members, X7_answerFinal, X7_doAnswer, X7_answer, X8_checkAnswer, X8_nextFinal, X8_enter -/
/-! X0_nextToAnswer -/
theorem d_82_0 {B : zeB} {im : Nat → Nat → Int32} {lm : Nat → Nat → Int64} (o1 : Option Value)  : zeRun 82 0 [some (.ref 23), o1] [] (zk B im lm) = zeRun 82 2 [some (.ref 23), some (.int 0)] [] (zk B im lm) := ze_go (ok := true) rfl 2 rfl rfl
theorem d_82_2 {B : zeB} {im : Nat → Nat → Int32} {lm : Nat → Nat → Int64} (l1 : Int32)  : zeRun 82 2 [some (.ref 23), some (.int l1)] [] (zk B im lm) = if 6 ≤ l1 then zeRun 82 37 [some (.ref 23), some (.int l1)] [] (zk B im lm) else zeRun 82 8 [some (.ref 23), some (.int l1)] [] (zk B im lm) := ze_if (ok := true) rfl 3 rfl rfl
theorem d_82_37 {B : zeB} {im : Nat → Nat → Int32} {lm : Nat → Nat → Int64} (o0 : Option Value) (o1 : Option Value)  : zeRun 82 37 [o0, o1] [] (zk B im lm) = some (some (.int (-10000005)), (zk B im lm)) := ze_ret (ok := true) rfl 2 rfl rfl
theorem d_82_8 {B : zeB} {im : Nat → Nat → Int32} {lm : Nat → Nat → Int64} (l1 : Int32) (c0 : zeInb l1 6 = true) : zeRun 82 8 [some (.ref 23), some (.int l1)] [] (zk B im lm) = if (im 24 (Int32.toNatClampNeg l1)) ≤ 0 then zeRun 82 31 [some (.ref 23), some (.int l1)] [] (zk B im lm) else zeRun 82 17 [some (.ref 23), some (.int l1)] [] (zk B im lm) := ze_if (ok := (zeInb l1 6 && true)) rfl 5 rfl (zeA2 c0 rfl)
theorem d_82_31 {B : zeB} {im : Nat → Nat → Int32} {lm : Nat → Nat → Int64} (l1 : Int32)  : zeRun 82 31 [some (.ref 23), some (.int l1)] [] (zk B im lm) = zeRun 82 2 [some (.ref 23), some (.int (l1 + 1))] [] (zk B im lm) := ze_go (ok := true) rfl 2 rfl rfl
theorem d_82_17 {B : zeB} {im : Nat → Nat → Int32} {lm : Nat → Nat → Int64} (l1 : Int32)  : zeRun 82 17 [some (.ref 23), some (.int l1)] [] (zk B im lm) = zeBh 82 22 [some (.ref 23), some (.int l1)] [] (zeRun 81 0 [some (.ref 23), some (.int l1), none, none] [] (zk B im lm)) := ze_call (ok := true) rfl 3 rfl rfl rfl
theorem d_82_22 {B : zeB} {im : Nat → Nat → Int32} {lm : Nat → Nat → Int64} (l1 : Int32) (s0 : Int32)  : zeRun 82 22 [some (.ref 23), some (.int l1)] [.int s0] (zk B im lm) = if s0 = (im 23 0) then zeRun 82 29 [some (.ref 23), some (.int l1)] [] (zk B im lm) else zeRun 82 31 [some (.ref 23), some (.int l1)] [] (zk B im lm) := ze_if (ok := true) rfl 3 rfl rfl
theorem d_82_29 {B : zeB} {im : Nat → Nat → Int32} {lm : Nat → Nat → Int64} (o0 : Option Value) (l1 : Int32)  : zeRun 82 29 [o0, some (.int l1)] [] (zk B im lm) = some (some (.int l1), (zk B im lm)) := ze_ret (ok := true) rfl 2 rfl rfl
def F_82_2  : Nat → Int32 → zI → zJ → zR
  | 0, _, _, _ => none
  | n + 1, l1, im, lm =>
    if 6 ≤ l1 then
      some ((-10000005), im, lm)
    else
      zCk (zeInb l1 6) <|
      if (im 24 (Int32.toNatClampNeg l1)) ≤ 0 then
        F_82_2  n (l1 + 1) im lm
      else
        zBd (m_81 l1 im lm) fun v1 im1 lm1 =>
        if v1 = (im1 23 0) then
          some (l1, im1, lm1)
        else
          F_82_2  n (l1 + 1) im1 lm1
theorem F_82_2_ok {B : zeB} : ∀ (n : Nat) (l1 : Int32)  (im : zI) (lm : zJ), zL B 1 (F_82_2  n l1 im lm) (zeRun 82 2 [some (.ref 23), some (.int l1)] [] (zk B im lm)) := by
  intro n
  induction n with
  | zero => intros; exact zL_none
  | succ n ih =>
    intro l1 im lm
    unfold F_82_2
    refine zL_if (d_82_2 _) (fun h => ?_) (fun h => ?_)
    · skip
      exact zL_ret (d_82_37 _ _)
    · skip
      refine zL_ck fun c1 => ?_
      refine zL_if (d_82_8 _ c1) (fun h => ?_) (fun h => ?_)
      · skip
        refine zL_eq (d_82_31 _) ?_
        exact ih _ _ _
      · skip
        refine zL_bd (d_82_17 _) (m_81_ok _ _ _) fun v1 im1 lm1 => ?_
        refine zL_if (d_82_22 _ _) (fun h => ?_) (fun h => ?_)
        · skip
          exact zL_ret (d_82_29 _ _)
        · skip
          refine zL_eq (d_82_31 _) ?_
          exact ih _ _ _
def m_82  (im : zI) (lm : zJ) : zR :=
    F_82_2  2000 0 im lm
theorem m_82_ok {B : zeB}  (im : zI) (lm : zJ) : zL B 1 (m_82  im lm) (zeRun 82 0 [some (.ref 23), none] [] (zk B im lm)) := by
  unfold m_82
  refine zL_eq (d_82_0 _) ?_
  exact F_82_2_ok  _ _ _ _
/-! X0_members -/
theorem d_83_0 {B : zeB} {im : Nat → Nat → Int32} {lm : Nat → Nat → Int64} (o1 : Option Value) (o2 : Option Value) (o3 : Option Value) (o4 : Option Value) (o5 : Option Value)  : zeRun 83 0 [some (.ref 23), o1, o2, o3, o4, o5] [] (zk B im lm) = zeRun 83 13 [some (.ref 23), some (.int 0), some (.ref 24), some (.int 6), some (.int 0), o5] [] (zk B im lm) := ze_go (ok := true) rfl 10 rfl rfl
theorem d_83_13 {B : zeB} {im : Nat → Nat → Int32} {lm : Nat → Nat → Int64} (o0 : Option Value) (l1 : Int32) (l3 : Int32) (l4 : Int32) (o5 : Option Value)  : zeRun 83 13 [o0, some (.int l1), some (.ref 24), some (.int l3), some (.int l4), o5] [] (zk B im lm) = if l3 ≤ l4 then zeRun 83 39 [o0, some (.int l1), some (.ref 24), some (.int l3), some (.int l4), o5] [] (zk B im lm) else zeRun 83 19 [o0, some (.int l1), some (.ref 24), some (.int l3), some (.int l4), o5] [] (zk B im lm) := ze_if (ok := true) rfl 3 rfl rfl
theorem d_83_39 {B : zeB} {im : Nat → Nat → Int32} {lm : Nat → Nat → Int64} (o0 : Option Value) (l1 : Int32) (o2 : Option Value) (o3 : Option Value) (o4 : Option Value) (o5 : Option Value)  : zeRun 83 39 [o0, some (.int l1), o2, o3, o4, o5] [] (zk B im lm) = some (some (.int l1), (zk B im lm)) := ze_ret (ok := true) rfl 2 rfl rfl
theorem d_83_19 {B : zeB} {im : Nat → Nat → Int32} {lm : Nat → Nat → Int64} (o0 : Option Value) (l1 : Int32) (l3 : Int32) (l4 : Int32) (o5 : Option Value) (c0 : zeInb l4 6 = true) : zeRun 83 19 [o0, some (.int l1), some (.ref 24), some (.int l3), some (.int l4), o5] [] (zk B im lm) = if (im 24 (Int32.toNatClampNeg l4)) ≤ 0 then zeRun 83 33 [o0, some (.int l1), some (.ref 24), some (.int l3), some (.int l4), some (.int (im 24 (Int32.toNatClampNeg l4)))] [] (zk B im lm) else zeRun 83 30 [o0, some (.int l1), some (.ref 24), some (.int l3), some (.int l4), some (.int (im 24 (Int32.toNatClampNeg l4)))] [] (zk B im lm) := ze_if (ok := (zeInb l4 6 && true)) rfl 6 rfl (zeA2 c0 rfl)
theorem d_83_33 {B : zeB} {im : Nat → Nat → Int32} {lm : Nat → Nat → Int64} (o0 : Option Value) (l1 : Int32) (l3 : Int32) (l4 : Int32) (o5 : Option Value)  : zeRun 83 33 [o0, some (.int l1), some (.ref 24), some (.int l3), some (.int l4), o5] [] (zk B im lm) = zeRun 83 13 [o0, some (.int l1), some (.ref 24), some (.int l3), some (.int (l4 + 1)), o5] [] (zk B im lm) := ze_go (ok := true) rfl 2 rfl rfl
theorem d_83_30 {B : zeB} {im : Nat → Nat → Int32} {lm : Nat → Nat → Int64} (o0 : Option Value) (l1 : Int32) (l3 : Int32) (l4 : Int32) (o5 : Option Value)  : zeRun 83 30 [o0, some (.int l1), some (.ref 24), some (.int l3), some (.int l4), o5] [] (zk B im lm) = zeRun 83 13 [o0, some (.int (l1 + 1)), some (.ref 24), some (.int l3), some (.int (l4 + 1)), o5] [] (zk B im lm) := ze_go (ok := true) rfl 3 rfl rfl
def F_83_13  : Nat → Int32 → Int32 → Int32 → zI → zJ → zR
  | 0, _, _, _, _, _ => none
  | n + 1, l1, l3, l4, im, lm =>
    if l3 ≤ l4 then
      some (l1, im, lm)
    else
      zCk (zeInb l4 6) <|
      F_83_13  n (if (im 24 (Int32.toNatClampNeg l4)) ≤ 0 then l1 else (l1 + 1)) l3 (l4 + 1) im lm
theorem F_83_13_ok {B : zeB} : ∀ (n : Nat) (l1 : Int32) (l3 : Int32) (l4 : Int32) (o0 : Option Value) (o5 : Option Value) (im : zI) (lm : zJ), zL B 1 (F_83_13  n l1 l3 l4 im lm) (zeRun 83 13 [o0, some (.int l1), some (.ref 24), some (.int l3), some (.int l4), o5] [] (zk B im lm)) := by
  intro n
  induction n with
  | zero => intros; exact zL_none
  | succ n ih =>
    intro l1 l3 l4 o0 o5 im lm
    unfold F_83_13
    refine zL_if (d_83_13 _ _ _ _ _) (fun h => ?_) (fun h => ?_)
    · skip
      exact zL_ret (d_83_39 _ _ _ _ _ _)
    · skip
      refine zL_ck fun c1 => ?_
      refine zL_ifm (d_83_19 _ _ _ _ _ c1) (fun h => ?_) (fun h => ?_)
      · repeat rw [if_pos h]
        refine zL_eq (d_83_33 _ _ _ _ _) ?_
        exact ih _ _ _ _ _ _ _
      · repeat rw [if_neg h]
        refine zL_eq (d_83_30 _ _ _ _ _) ?_
        exact ih _ _ _ _ _ _ _
def m_83  (im : zI) (lm : zJ) : zR :=
    F_83_13  2000 0 6 0 im lm
theorem m_83_ok {B : zeB}  (im : zI) (lm : zJ) : zL B 1 (m_83  im lm) (zeRun 83 0 [some (.ref 23), none, none, none, none, none] [] (zk B im lm)) := by
  unfold m_83
  refine zL_eq (d_83_0 _ _ _ _ _) ?_
  exact F_83_13_ok  _ _ _ _ _ _ _ _
/-! X7_answerFinal -/
theorem d_84_0 {B : zeB} {im : Nat → Nat → Int32} {lm : Nat → Nat → Int64} (l1 : Int32) (o2 : Option Value)  : zeRun 84 0 [some (.ref 16), some (.int l1), o2] [] (zk B im lm) = zeBh 84 10 [some (.ref 16), some (.int l1), o2] [] (zeRun 70 0 [some (.ref 26)] [] (zk B im lm)) := ze_call (ok := true) rfl 4 rfl rfl rfl
theorem d_84_10 {B : zeB} {im : Nat → Nat → Int32} {lm : Nat → Nat → Int64} (l1 : Int32) (o2 : Option Value) (s0 : Int32)  : zeRun 84 10 [some (.ref 16), some (.int l1), o2] [.int s0] (zk B im lm) = if s0 = 0 then zeRun 84 20 [some (.ref 16), some (.int l1), o2] [] (zk B im lm) else zeRun 84 13 [some (.ref 16), some (.int l1), o2] [] (zk B im lm) := ze_if (ok := true) rfl 1 rfl rfl
theorem d_84_20 {B : zeB} {im : Nat → Nat → Int32} {lm : Nat → Nat → Int64} (l1 : Int32) (o2 : Option Value)  : zeRun 84 20 [some (.ref 16), some (.int l1), o2] [] (zk B im lm) = zeBh 84 30 [some (.ref 16), some (.int l1), o2] [] (zeRun 82 0 [some (.ref 23), none] [] (zk B im lm)) := ze_call (ok := true) rfl 4 rfl rfl rfl
theorem d_84_30 {B : zeB} {im : Nat → Nat → Int32} {lm : Nat → Nat → Int64} (l1 : Int32) (o2 : Option Value) (s0 : Int32)  : zeRun 84 30 [some (.ref 16), some (.int l1), o2] [.int s0] (zk B im lm) = if s0 = (-10000005) then zeRun 84 37 [some (.ref 16), some (.int l1), some (.int s0)] [] (zk B im lm) else zeRun 84 43 [some (.ref 16), some (.int l1), some (.int s0)] [] (zk B im lm) := ze_if (ok := true) rfl 4 rfl rfl
theorem d_84_37 {B : zeB} {im : Nat → Nat → Int32} {lm : Nat → Nat → Int64} (o1 : Option Value) (o2 : Option Value)  : zeRun 84 37 [some (.ref 16), o1, o2] [] (zk B im lm) = zeBh 84 42 [some (.ref 16), o1, o2] [] (zeRun 17 0 [some (.ref 16), some (.int 1)] [] (zk B im lm)) := ze_call (ok := true) rfl 3 rfl rfl rfl
theorem d_84_42 {B : zeB} {im : Nat → Nat → Int32} {lm : Nat → Nat → Int64} (o0 : Option Value) (o1 : Option Value) (o2 : Option Value) (s0 : Int32)  : zeRun 84 42 [o0, o1, o2] [.int s0] (zk B im lm) = some (some (.int s0), (zk B im lm)) := ze_ret (ok := true) rfl 1 rfl rfl
theorem d_84_43 {B : zeB} {im : Nat → Nat → Int32} {lm : Nat → Nat → Int64} (l1 : Int32) (l2 : Int32) (c0 : zeInb l2 6 = true) : zeRun 84 43 [some (.ref 16), some (.int l1), some (.int l2)] [] (zk B im lm) = if l1 = 0 then zeRun 84 74 [some (.ref 16), some (.int l1), some (.int l2)] [.int (im 25 (Int32.toNatClampNeg l2)), .int (-10000005), .int 3, .int l2, .ref 26] (zk B im lm) else zeRun 84 70 [some (.ref 16), some (.int l1), some (.int l2)] [.int (im 25 (Int32.toNatClampNeg l2)), .int (-10000005), .int 3, .int l2, .ref 26] (zk B im lm) := ze_if (ok := (zeInb l2 6 && true)) rfl 14 rfl (zeA2 c0 rfl)
theorem d_84_74 {B : zeB} {im : Nat → Nat → Int32} {lm : Nat → Nat → Int64} (o1 : Option Value) (l2 : Int32) (s1 : Int32) (s2 : Int32) (s3 : Int32) (s4 : Int32)  : zeRun 84 74 [some (.ref 16), o1, some (.int l2)] [.int s4, .int s3, .int s2, .int s1, .ref 26] (zk B im lm) = zeRun 84 75 [some (.ref 16), o1, some (.int l2)] [.int 0, .int s4, .int s3, .int s2, .int s1, .ref 26] (zk B im lm) := ze_go (ok := true) rfl 1 rfl rfl
theorem d_84_70 {B : zeB} {im : Nat → Nat → Int32} {lm : Nat → Nat → Int64} (o1 : Option Value) (l2 : Int32) (s1 : Int32) (s2 : Int32) (s3 : Int32) (s4 : Int32)  : zeRun 84 70 [some (.ref 16), o1, some (.int l2)] [.int s4, .int s3, .int s2, .int s1, .ref 26] (zk B im lm) = zeRun 84 75 [some (.ref 16), o1, some (.int l2)] [.int 1, .int s4, .int s3, .int s2, .int s1, .ref 26] (zk B im lm) := ze_go (ok := true) rfl 2 rfl rfl
theorem d_84_13 {B : zeB} {im : Nat → Nat → Int32} {lm : Nat → Nat → Int64} (o1 : Option Value) (o2 : Option Value)  : zeRun 84 13 [some (.ref 16), o1, o2] [] (zk B im lm) = zeBh 84 19 [some (.ref 16), o1, o2] [] (zeRun 17 0 [some (.ref 16), some (.int 7)] [] (zk B im lm)) := ze_call (ok := true) rfl 3 rfl rfl rfl
theorem d_84_19 {B : zeB} {im : Nat → Nat → Int32} {lm : Nat → Nat → Int64} (o0 : Option Value) (o1 : Option Value) (o2 : Option Value) (s0 : Int32)  : zeRun 84 19 [o0, o1, o2] [.int s0] (zk B im lm) = some (some (.int s0), (zk B im lm)) := ze_ret (ok := true) rfl 1 rfl rfl
theorem d_84_75 {B : zeB} {im : Nat → Nat → Int32} {lm : Nat → Nat → Int64} (o1 : Option Value) (l2 : Int32) (s1 : Int32) (s2 : Int32) (s3 : Int32) (s4 : Int32) (s5 : Int32)  : zeRun 84 75 [some (.ref 16), o1, some (.int l2)] [.int s5, .int s4, .int s3, .int s2, .int s1, .ref 26] (zk B im lm) = zeBh 84 78 [some (.ref 16), o1, some (.int l2)] [] (zeRun 71 0 [some (.ref 26), some (.int s1), some (.int s2), some (.int s3), some (.int s4), some (.int s5)] [] (zk B im lm)) := ze_call (ok := true) rfl 1 rfl rfl rfl
theorem d_84_78 {B : zeB} {im : Nat → Nat → Int32} {lm : Nat → Nat → Int64} (o1 : Option Value) (l2 : Int32)  : zeRun 84 78 [some (.ref 16), o1, some (.int l2)] [] (zk B im lm) = zeBh 84 114 [some (.ref 16), o1, some (.int l2)] [.int ((im 23 0) + 1)] (zeRun 83 0 [some (.ref 23), none, none, none, none, none] [] (zk B (zeU2 im 23 0 ((im 23 0) + 1)) lm)) := ze_call (ok := true) rfl 16 rfl rfl rfl
theorem d_84_114 {B : zeB} {im : Nat → Nat → Int32} {lm : Nat → Nat → Int64} (o1 : Option Value) (l2 : Int32) (s0 : Int32) (s1 : Int32)  : zeRun 84 114 [some (.ref 16), o1, some (.int l2)] [.int s1, .int s0] (zk B im lm) = if s0 < s1 then zeRun 84 126 [some (.ref 16), o1, some (.int l2)] [] (zk B im lm) else zeRun 84 117 [some (.ref 16), o1, some (.int l2)] [] (zk B im lm) := ze_if (ok := true) rfl 1 rfl rfl
theorem d_84_117 {B : zeB} {im : Nat → Nat → Int32} {lm : Nat → Nat → Int64} (o1 : Option Value) (l2 : Int32)  : zeRun 84 117 [some (.ref 16), o1, some (.int l2)] [] (zk B im lm) = zeRun 84 126 [some (.ref 16), o1, some (.int l2)] [] (zk B (zeU2 im 17 0 6) lm) := ze_go (ok := true) rfl 4 rfl rfl
theorem d_84_126 {B : zeB} {im : Nat → Nat → Int32} {lm : Nat → Nat → Int64} (o1 : Option Value) (l2 : Int32)  : zeRun 84 126 [some (.ref 16), o1, some (.int l2)] [] (zk B im lm) = zeBh 84 131 [some (.ref 16), o1, some (.int l2)] [] (zeRun 77 0 [some (.ref 16), some (.int l2)] [] (zk B im lm)) := ze_call (ok := true) rfl 3 rfl rfl rfl
theorem d_84_131 {B : zeB} {im : Nat → Nat → Int32} {lm : Nat → Nat → Int64} (o0 : Option Value) (o1 : Option Value) (o2 : Option Value) (s0 : Int32)  : zeRun 84 131 [o0, o1, o2] [.int s0] (zk B im lm) = some (some (.int s0), (zk B im lm)) := ze_ret (ok := true) rfl 1 rfl rfl
def J_84_126  (l2 : Int32) (im : zI) (lm : zJ) : zR :=
    zBd (m_77 l2 im lm) fun v1 im1 lm1 =>
    some (v1, im1, lm1)
theorem J_84_126_ok {B : zeB} (l2 : Int32) (o1 : Option Value) (im : zI) (lm : zJ) : zL B 1 (J_84_126  l2 im lm) (zeRun 84 126 [some (.ref 16), o1, some (.int l2)] [] (zk B im lm)) := by
  unfold J_84_126
  refine zL_bd (d_84_126 _ _) (m_77_ok _ _ _) fun v1 im1 lm1 => ?_
  exact zL_ret (d_84_131 _ _ _ _)
def J_84_75  (l2 : Int32) (s1 : Int32) (s2 : Int32) (s3 : Int32) (s4 : Int32) (s5 : Int32) (im : zI) (lm : zJ) : zR :=
    zBd (m_71 s1 s2 s3 s4 s5 im lm) fun _ im1 lm1 =>
    zBd (m_83  (zeU2 im1 23 0 ((im1 23 0) + 1)) lm1) fun v2 im2 lm2 =>
    J_84_126   l2 (if ((im1 23 0) + 1) < v2 then im2 else (zeU2 im2 17 0 6)) lm2
theorem J_84_75_ok {B : zeB} (l2 : Int32) (s1 : Int32) (s2 : Int32) (s3 : Int32) (s4 : Int32) (s5 : Int32) (o1 : Option Value) (im : zI) (lm : zJ) : zL B 1 (J_84_75  l2 s1 s2 s3 s4 s5 im lm) (zeRun 84 75 [some (.ref 16), o1, some (.int l2)] [.int s5, .int s4, .int s3, .int s2, .int s1, .ref 26] (zk B im lm)) := by
  unfold J_84_75
  refine zL_bdv (d_84_75 _ _ _ _ _ _ _) (m_71_ok _ _ _ _ _ _ _) fun _ im1 lm1 => ?_
  refine zL_bd (d_84_78 _ _) (m_83_ok _ _) fun v2 im2 lm2 => ?_
  refine zL_ifm (d_84_114 _ _ _ _) (fun h => ?_) (fun h => ?_)
  · repeat rw [if_pos h]
    exact J_84_126_ok   _ _ _ _
  · repeat rw [if_neg h]
    refine zL_eq (d_84_117 _ _) ?_
    exact J_84_126_ok   _ _ _ _
def m_84 (l1 : Int32) (im : zI) (lm : zJ) : zR :=
    if (if (im 26 0) < 60 then 0 else 1 : Int32) = 0 then
      zBd (m_82  im lm) fun v2 im2 lm2 =>
      if v2 = (-10000005) then
        zBd (m_17 1 im2 lm2) fun v3 im3 lm3 =>
        some (v3, im3, lm3)
      else
        zCk (zeInb v2 6) <|
        J_84_75   v2 v2 3 (-10000005) (im2 25 (Int32.toNatClampNeg v2)) (if l1 = 0 then 0 else 1) im2 lm2
    else
      zBd (m_17 7 im lm) fun v4 im4 lm4 =>
      some (v4, im4, lm4)
theorem m_84_ok {B : zeB} (l1 : Int32) (im : zI) (lm : zJ) : zL B 1 (m_84 l1 im lm) (zeRun 84 0 [some (.ref 16), some (.int l1), none] [] (zk B im lm)) := by
  unfold m_84
  refine zL_bdp (e := (if (im 26 0) < 60 then 0 else 1 : Int32)) (d_84_0 _ _) (m_70_ok _ _) ?_
  refine zL_if (d_84_10 _ _ _) (fun h => ?_) (fun h => ?_)
  · skip
    refine zL_bd (d_84_20 _ _) (m_82_ok _ _) fun v2 im2 lm2 => ?_
    refine zL_if (d_84_30 _ _ _) (fun h => ?_) (fun h => ?_)
    · skip
      refine zL_bd (d_84_37 _ _) (m_17_ok _ _ _) fun v3 im3 lm3 => ?_
      exact zL_ret (d_84_42 _ _ _ _)
    · skip
      refine zL_ck fun c1 => ?_
      refine zL_ifm (d_84_43 _ _ c1) (fun h => ?_) (fun h => ?_)
      · repeat rw [if_pos h]
        refine zL_eq (d_84_74 _ _ _ _ _ _) ?_
        exact J_84_75_ok   _ _ _ _ _ _ _ _ _
      · repeat rw [if_neg h]
        refine zL_eq (d_84_70 _ _ _ _ _ _) ?_
        exact J_84_75_ok   _ _ _ _ _ _ _ _ _
  · skip
    refine zL_bd (d_84_13 _ _) (m_17_ok _ _ _) fun v4 im4 lm4 => ?_
    exact zL_ret (d_84_19 _ _ _ _)
/-! X7_doAnswer -/
theorem d_85_0 {B : zeB} {im : Nat → Nat → Int32} {lm : Nat → Nat → Int64} (l1 : Int32)  : zeRun 85 0 [some (.ref 16), some (.int l1)] [] (zk B im lm) = zeRun 85 (zeSw (im 17 0) 58 [(1, 40), (2, 58), (3, 46), (4, 58), (5, 52)]) [some (.ref 16), some (.int l1)] [] (zk B im lm) := ze_go (ok := true) rfl 4 rfl rfl
theorem d_85_40 {B : zeB} {im : Nat → Nat → Int32} {lm : Nat → Nat → Int64} (l1 : Int32)  : zeRun 85 40 [some (.ref 16), some (.int l1)] [] (zk B im lm) = zeBh 85 45 [some (.ref 16), some (.int l1)] [] (zeRun 78 0 [some (.ref 16), some (.int l1), none, none, none] [] (zk B im lm)) := ze_call (ok := true) rfl 3 rfl rfl rfl
theorem d_85_45 {B : zeB} {im : Nat → Nat → Int32} {lm : Nat → Nat → Int64} (o0 : Option Value) (o1 : Option Value) (s0 : Int32)  : zeRun 85 45 [o0, o1] [.int s0] (zk B im lm) = some (some (.int s0), (zk B im lm)) := ze_ret (ok := true) rfl 1 rfl rfl
theorem d_85_58 {B : zeB} {im : Nat → Nat → Int32} {lm : Nat → Nat → Int64} (o1 : Option Value)  : zeRun 85 58 [some (.ref 16), o1] [] (zk B im lm) = zeBh 85 63 [some (.ref 16), o1] [] (zeRun 17 0 [some (.ref 16), some (.int 1)] [] (zk B im lm)) := ze_call (ok := true) rfl 3 rfl rfl rfl
theorem d_85_63 {B : zeB} {im : Nat → Nat → Int32} {lm : Nat → Nat → Int64} (o0 : Option Value) (o1 : Option Value) (s0 : Int32)  : zeRun 85 63 [o0, o1] [.int s0] (zk B im lm) = some (some (.int s0), (zk B im lm)) := ze_ret (ok := true) rfl 1 rfl rfl
theorem d_85_46 {B : zeB} {im : Nat → Nat → Int32} {lm : Nat → Nat → Int64} (l1 : Int32)  : zeRun 85 46 [some (.ref 16), some (.int l1)] [] (zk B im lm) = zeBh 85 51 [some (.ref 16), some (.int l1)] [] (zeRun 79 0 [some (.ref 16), some (.int l1), none] [] (zk B im lm)) := ze_call (ok := true) rfl 3 rfl rfl rfl
theorem d_85_51 {B : zeB} {im : Nat → Nat → Int32} {lm : Nat → Nat → Int64} (o0 : Option Value) (o1 : Option Value) (s0 : Int32)  : zeRun 85 51 [o0, o1] [.int s0] (zk B im lm) = some (some (.int s0), (zk B im lm)) := ze_ret (ok := true) rfl 1 rfl rfl
theorem d_85_52 {B : zeB} {im : Nat → Nat → Int32} {lm : Nat → Nat → Int64} (l1 : Int32)  : zeRun 85 52 [some (.ref 16), some (.int l1)] [] (zk B im lm) = zeBh 85 57 [some (.ref 16), some (.int l1)] [] (zeRun 84 0 [some (.ref 16), some (.int l1), none] [] (zk B im lm)) := ze_call (ok := true) rfl 3 rfl rfl rfl
theorem d_85_57 {B : zeB} {im : Nat → Nat → Int32} {lm : Nat → Nat → Int64} (o0 : Option Value) (o1 : Option Value) (s0 : Int32)  : zeRun 85 57 [o0, o1] [.int s0] (zk B im lm) = some (some (.int s0), (zk B im lm)) := ze_ret (ok := true) rfl 1 rfl rfl
def m_85 (l1 : Int32) (im : zI) (lm : zJ) : zR :=
    if (im 17 0) = 1 then
      zBd (m_78 l1 im lm) fun v1 im1 lm1 =>
      some (v1, im1, lm1)
    else
      if (im 17 0) = 2 then
        zBd (m_17 1 im lm) fun v2 im2 lm2 =>
        some (v2, im2, lm2)
      else
        if (im 17 0) = 3 then
          zBd (m_79 l1 im lm) fun v3 im3 lm3 =>
          some (v3, im3, lm3)
        else
          if (im 17 0) = 4 then
            zBd (m_17 1 im lm) fun v4 im4 lm4 =>
            some (v4, im4, lm4)
          else
            if (im 17 0) = 5 then
              zBd (m_84 l1 im lm) fun v5 im5 lm5 =>
              some (v5, im5, lm5)
            else
              zBd (m_17 1 im lm) fun v6 im6 lm6 =>
              some (v6, im6, lm6)
theorem m_85_ok {B : zeB} (l1 : Int32) (im : zI) (lm : zJ) : zL B 1 (m_85 l1 im lm) (zeRun 85 0 [some (.ref 16), some (.int l1)] [] (zk B im lm)) := by
  unfold m_85
  refine zL_eq (d_85_0 _) ?_
  refine zL_sw (fun h => ?_) (fun h => ?_)
  · skip
    refine zL_bd (d_85_40 _) (m_78_ok _ _ _) fun v1 im1 lm1 => ?_
    exact zL_ret (d_85_45 _ _ _)
  refine zL_sw (fun h => ?_) (fun h => ?_)
  · skip
    refine zL_bd (d_85_58 _) (m_17_ok _ _ _) fun v2 im2 lm2 => ?_
    exact zL_ret (d_85_63 _ _ _)
  refine zL_sw (fun h => ?_) (fun h => ?_)
  · skip
    refine zL_bd (d_85_46 _) (m_79_ok _ _ _) fun v3 im3 lm3 => ?_
    exact zL_ret (d_85_51 _ _ _)
  refine zL_sw (fun h => ?_) (fun h => ?_)
  · skip
    refine zL_bd (d_85_58 _) (m_17_ok _ _ _) fun v4 im4 lm4 => ?_
    exact zL_ret (d_85_63 _ _ _)
  refine zL_sw (fun h => ?_) (fun h => ?_)
  · skip
    refine zL_bd (d_85_52 _) (m_84_ok _ _ _) fun v5 im5 lm5 => ?_
    exact zL_ret (d_85_57 _ _ _)
  refine zL_swd ?_
  refine zL_bd (d_85_58 _) (m_17_ok _ _ _) fun v6 im6 lm6 => ?_
  exact zL_ret (d_85_63 _ _ _)
/-! X7_answer -/
theorem d_86_0 {B : zeB} {im : Nat → Nat → Int32} {lm : Nat → Nat → Int64} (l1 : Int32)  : zeRun 86 0 [some (.ref 16), some (.int l1)] [] (zk B im lm) = zeBh 86 11 [some (.ref 16), some (.int l1)] [] (zeRun 15 0 [some (.ref 42), some (.ref 17)] [] (zk B im lm)) := ze_call (ok := true) rfl 5 rfl rfl rfl
theorem d_86_11 {B : zeB} {im : Nat → Nat → Int32} {lm : Nat → Nat → Int64} (l1 : Int32)  : zeRun 86 11 [some (.ref 16), some (.int l1)] [] (zk B im lm) = zeBh 86 17 [some (.ref 16), some (.int l1)] [.ref 16] (zeRun 85 0 [some (.ref 16), some (.int l1)] [] (zk B im lm)) := ze_call (ok := true) rfl 4 rfl rfl rfl
theorem d_86_17 {B : zeB} {im : Nat → Nat → Int32} {lm : Nat → Nat → Int64} (o0 : Option Value) (o1 : Option Value) (s1 : Int32)  : zeRun 86 17 [o0, o1] [.int s1, .ref 16] (zk B im lm) = zeBh 86 20 [o0, o1] [] (zeRun 21 0 [some (.ref 16), some (.int s1)] [] (zk B im lm)) := ze_call (ok := true) rfl 1 rfl rfl rfl
theorem d_86_20 {B : zeB} {im : Nat → Nat → Int32} {lm : Nat → Nat → Int64} (o0 : Option Value) (o1 : Option Value) (s0 : Int32)  : zeRun 86 20 [o0, o1] [.int s0] (zk B im lm) = some (some (.int s0), (zk B im lm)) := ze_ret (ok := true) rfl 1 rfl rfl
def m_86 (l1 : Int32) (im : zI) (lm : zJ) : zR :=
    zBd (m_15  im lm) fun _ im1 lm1 =>
    zBd (m_85 l1 im1 lm1) fun v2 im2 lm2 =>
    zBd (m_21 v2 im2 lm2) fun v3 im3 lm3 =>
    some (v3, im3, lm3)
theorem m_86_ok {B : zeB} (l1 : Int32) (im : zI) (lm : zJ) : zL B 1 (m_86 l1 im lm) (zeRun 86 0 [some (.ref 16), some (.int l1)] [] (zk B im lm)) := by
  unfold m_86
  refine zL_bdv (d_86_0 _) (m_15_ok _ _) fun _ im1 lm1 => ?_
  refine zL_bd (d_86_11 _) (m_85_ok _ _ _) fun v2 im2 lm2 => ?_
  refine zL_bd (d_86_17 _ _ _) (m_21_ok _ _ _) fun v3 im3 lm3 => ?_
  exact zL_ret (d_86_20 _ _ _)
/-! X8_checkAnswer -/
theorem d_87_0 {B : zeB} {im : Nat → Nat → Int32} {lm : Nat → Nat → Int64} (o1 : Option Value)  : zeRun 87 0 [some (.ref 170), o1] [] (zk B im lm) = if (im 171 0) = 1 then zeRun 87 28 [some (.ref 170), some (.int (im 171 0))] [] (zk B im lm) else zeRun 87 12 [some (.ref 170), some (.int (im 171 0))] [] (zk B im lm) := ze_if (ok := true) rfl 8 rfl rfl
theorem d_87_12 {B : zeB} {im : Nat → Nat → Int32} {lm : Nat → Nat → Int64} (l1 : Int32)  : zeRun 87 12 [some (.ref 170), some (.int l1)] [] (zk B im lm) = if l1 = 3 then zeRun 87 28 [some (.ref 170), some (.int l1)] [] (zk B im lm) else zeRun 87 17 [some (.ref 170), some (.int l1)] [] (zk B im lm) := ze_if (ok := true) rfl 3 rfl rfl
theorem d_87_17 {B : zeB} {im : Nat → Nat → Int32} {lm : Nat → Nat → Int64} (l1 : Int32)  : zeRun 87 17 [some (.ref 170), some (.int l1)] [] (zk B im lm) = if l1 = 5 then zeRun 87 28 [some (.ref 170), some (.int l1)] [] (zk B im lm) else zeRun 87 22 [some (.ref 170), some (.int l1)] [] (zk B im lm) := ze_if (ok := true) rfl 3 rfl rfl
theorem d_87_22 {B : zeB} {im : Nat → Nat → Int32} {lm : Nat → Nat → Int64} (o1 : Option Value)  : zeRun 87 22 [some (.ref 170), o1] [] (zk B im lm) = zeBh 87 27 [some (.ref 170), o1] [] (zeRun 24 0 [some (.ref 170), some (.int 1)] [] (zk B im lm)) := ze_call (ok := true) rfl 3 rfl rfl rfl
theorem d_87_27 {B : zeB} {im : Nat → Nat → Int32} {lm : Nat → Nat → Int64} (o0 : Option Value) (o1 : Option Value) (s0 : Int32)  : zeRun 87 27 [o0, o1] [.int s0] (zk B im lm) = some (some (.int s0), (zk B im lm)) := ze_ret (ok := true) rfl 1 rfl rfl
theorem d_87_28 {B : zeB} {im : Nat → Nat → Int32} {lm : Nat → Nat → Int64} (l1 : Int32)  : zeRun 87 28 [some (.ref 170), some (.int l1)] [] (zk B im lm) = zeBh 87 32 [some (.ref 170), some (.int l1)] [] (zeRun 47 0 [some (.ref 170), none, none, none, none, none, none] [] (zk B im lm)) := ze_call (ok := true) rfl 2 rfl rfl rfl
theorem d_87_32 {B : zeB} {im : Nat → Nat → Int32} {lm : Nat → Nat → Int64} (l1 : Int32)  : zeRun 87 32 [some (.ref 170), some (.int l1)] [] (zk B im lm) = if l1 = 1 then zeRun 87 37 [some (.ref 170), some (.int l1)] [] (zk B im lm) else zeRun 87 50 [some (.ref 170), some (.int l1)] [] (zk B im lm) := ze_if (ok := true) rfl 3 rfl rfl
theorem d_87_37 {B : zeB} {im : Nat → Nat → Int32} {lm : Nat → Nat → Int64} (o1 : Option Value)  : zeRun 87 37 [some (.ref 170), o1] [] (zk B im lm) = zeBh 87 41 [some (.ref 170), o1] [] (zeRun 64 0 [some (.ref 170), none, none, none, none] [] (zk B im lm)) := ze_call (ok := true) rfl 2 rfl rfl rfl
theorem d_87_41 {B : zeB} {im : Nat → Nat → Int32} {lm : Nat → Nat → Int64} (o1 : Option Value) (s0 : Int32)  : zeRun 87 41 [some (.ref 170), o1] [.int s0] (zk B im lm) = if s0 = 0 then zeRun 87 44 [some (.ref 170), o1] [] (zk B im lm) else zeRun 87 50 [some (.ref 170), o1] [] (zk B im lm) := ze_if (ok := true) rfl 1 rfl rfl
theorem d_87_44 {B : zeB} {im : Nat → Nat → Int32} {lm : Nat → Nat → Int64} (o1 : Option Value)  : zeRun 87 44 [some (.ref 170), o1] [] (zk B im lm) = zeBh 87 49 [some (.ref 170), o1] [] (zeRun 24 0 [some (.ref 170), some (.int 4)] [] (zk B im lm)) := ze_call (ok := true) rfl 3 rfl rfl rfl
theorem d_87_49 {B : zeB} {im : Nat → Nat → Int32} {lm : Nat → Nat → Int64} (o0 : Option Value) (o1 : Option Value) (s0 : Int32)  : zeRun 87 49 [o0, o1] [.int s0] (zk B im lm) = some (some (.int s0), (zk B im lm)) := ze_ret (ok := true) rfl 1 rfl rfl
theorem d_87_50 {B : zeB} {im : Nat → Nat → Int32} {lm : Nat → Nat → Int64} (o1 : Option Value)  : zeRun 87 50 [some (.ref 170), o1] [] (zk B im lm) = if (im 171 5) = 60 then zeRun 87 61 [some (.ref 170), o1] [] (zk B im lm) else zeRun 87 70 [some (.ref 170), o1] [] (zk B im lm) := ze_if (ok := true) rfl 6 rfl rfl
theorem d_87_61 {B : zeB} {im : Nat → Nat → Int32} {lm : Nat → Nat → Int64} (o1 : Option Value)  : zeRun 87 61 [some (.ref 170), o1] [] (zk B im lm) = zeBh 87 67 [some (.ref 170), o1] [] (zeRun 24 0 [some (.ref 170), some (.int 7)] [] (zk B im lm)) := ze_call (ok := true) rfl 3 rfl rfl rfl
theorem d_87_67 {B : zeB} {im : Nat → Nat → Int32} {lm : Nat → Nat → Int64} (o0 : Option Value) (o1 : Option Value) (s0 : Int32)  : zeRun 87 67 [o0, o1] [.int s0] (zk B im lm) = some (some (.int s0), (zk B im lm)) := ze_ret (ok := true) rfl 2 rfl rfl
theorem d_87_70 {B : zeB} {im : Nat → Nat → Int32} {lm : Nat → Nat → Int64} (o0 : Option Value) (o1 : Option Value)  : zeRun 87 70 [o0, o1] [] (zk B im lm) = some (some (.int 0), (zk B im lm)) := ze_ret (ok := true) rfl 2 rfl rfl
def J_87_50   (im : zI) (lm : zJ) : zR :=
    if (im 171 5) = 60 then
      zBd (m_24 7 im lm) fun v1 im1 lm1 =>
      some (v1, im1, lm1)
    else
      some (0, im, lm)
theorem J_87_50_ok {B : zeB}  (o1 : Option Value) (im : zI) (lm : zJ) : zL B 1 (J_87_50   im lm) (zeRun 87 50 [some (.ref 170), o1] [] (zk B im lm)) := by
  unfold J_87_50
  refine zL_if (d_87_50 _) (fun h => ?_) (fun h => ?_)
  · skip
    refine zL_bd (d_87_61 _) (m_24_ok _ _ _) fun v1 im1 lm1 => ?_
    exact zL_ret (d_87_67 _ _ _)
  · skip
    exact zL_ret (d_87_70 _ _)
def J_87_28  (l1 : Int32) (im : zI) (lm : zJ) : zR :=
    zBd (m_47  im lm) fun _ im1 lm1 =>
    if l1 = 1 then
      zBd (m_64  im1 lm1) fun v2 im2 lm2 =>
      if v2 = 0 then
        zBd (m_24 4 im2 lm2) fun v3 im3 lm3 =>
        some (v3, im3, lm3)
      else
        J_87_50    im2 lm2
    else
      J_87_50    im1 lm1
theorem J_87_28_ok {B : zeB} (l1 : Int32)  (im : zI) (lm : zJ) : zL B 1 (J_87_28  l1 im lm) (zeRun 87 28 [some (.ref 170), some (.int l1)] [] (zk B im lm)) := by
  unfold J_87_28
  refine zL_bdv (d_87_28 _) (m_47_ok _ _) fun _ im1 lm1 => ?_
  refine zL_if (d_87_32 _) (fun h => ?_) (fun h => ?_)
  · skip
    refine zL_bd (d_87_37 _) (m_64_ok _ _) fun v2 im2 lm2 => ?_
    refine zL_if (d_87_41 _ _) (fun h => ?_) (fun h => ?_)
    · skip
      refine zL_bd (d_87_44 _) (m_24_ok _ _ _) fun v3 im3 lm3 => ?_
      exact zL_ret (d_87_49 _ _ _)
    · skip
      exact J_87_50_ok   _ _ _
  · skip
    exact J_87_50_ok   _ _ _
def m_87  (im : zI) (lm : zJ) : zR :=
    if (im 171 0) = 1 then
      J_87_28   (im 171 0) im lm
    else
      if (im 171 0) = 3 then
        J_87_28   (im 171 0) im lm
      else
        if (im 171 0) = 5 then
          J_87_28   (im 171 0) im lm
        else
          zBd (m_24 1 im lm) fun v1 im1 lm1 =>
          some (v1, im1, lm1)
theorem m_87_ok {B : zeB}  (im : zI) (lm : zJ) : zL B 1 (m_87  im lm) (zeRun 87 0 [some (.ref 170), none] [] (zk B im lm)) := by
  unfold m_87
  refine zL_if (d_87_0 _) (fun h => ?_) (fun h => ?_)
  · skip
    exact J_87_28_ok   _ _ _
  · skip
    refine zL_if (d_87_12 _) (fun h => ?_) (fun h => ?_)
    · skip
      exact J_87_28_ok   _ _ _
    · skip
      refine zL_if (d_87_17 _) (fun h => ?_) (fun h => ?_)
      · skip
        exact J_87_28_ok   _ _ _
      · skip
        refine zL_bd (d_87_22 _) (m_24_ok _ _ _) fun v1 im1 lm1 => ?_
        exact zL_ret (d_87_27 _ _ _)
/-! X8_nextFinal -/
theorem d_88_0 {B : zeB} {im : Nat → Nat → Int32} {lm : Nat → Nat → Int64} (o1 : Option Value) (o2 : Option Value) (o3 : Option Value)  : zeRun 88 0 [some (.ref 170), o1, o2, o3] [] (zk B im lm) = zeRun 88 4 [some (.ref 170), some (.int (-1)), some (.int 0), o3] [] (zk B im lm) := ze_go (ok := true) rfl 4 rfl rfl
theorem d_88_4 {B : zeB} {im : Nat → Nat → Int32} {lm : Nat → Nat → Int64} (l1 : Int32) (l2 : Int32) (o3 : Option Value)  : zeRun 88 4 [some (.ref 170), some (.int l1), some (.int l2), o3] [] (zk B im lm) = if (im 171 1) ≤ l2 then zeRun 88 90 [some (.ref 170), some (.int l1), some (.int l2), o3] [] (zk B im lm) else zeRun 88 14 [some (.ref 170), some (.int l1), some (.int l2), o3] [] (zk B im lm) := ze_if (ok := true) rfl 6 rfl rfl
theorem d_88_90 {B : zeB} {im : Nat → Nat → Int32} {lm : Nat → Nat → Int64} (o0 : Option Value) (l1 : Int32) (o2 : Option Value) (o3 : Option Value)  : zeRun 88 90 [o0, some (.int l1), o2, o3] [] (zk B im lm) = some (some (.int l1), (zk B im lm)) := ze_ret (ok := true) rfl 2 rfl rfl
theorem d_88_14 {B : zeB} {im : Nat → Nat → Int32} {lm : Nat → Nat → Int64} (l1 : Int32) (l2 : Int32) (o3 : Option Value)  : zeRun 88 14 [some (.ref 170), some (.int l1), some (.int l2), o3] [] (zk B im lm) = if (((im 171 13) >>> (l2 &&& 31)) &&& 1) = 1 then zeRun 88 29 [some (.ref 170), some (.int l1), some (.int l2), o3] [] (zk B im lm) else zeRun 88 47 [some (.ref 170), some (.int l1), some (.int l2), o3] [] (zk B im lm) := ze_if (ok := true) rfl 10 rfl rfl
theorem d_88_29 {B : zeB} {im : Nat → Nat → Int32} {lm : Nat → Nat → Int64} (l1 : Int32) (l2 : Int32) (o3 : Option Value)  : zeRun 88 29 [some (.ref 170), some (.int l1), some (.int l2), o3] [] (zk B im lm) = if (((im 171 14) >>> (l2 &&& 31)) &&& 1) = 0 then zeRun 88 43 [some (.ref 170), some (.int l1), some (.int l2), o3] [] (zk B im lm) else zeRun 88 47 [some (.ref 170), some (.int l1), some (.int l2), o3] [] (zk B im lm) := ze_if (ok := true) rfl 9 rfl rfl
theorem d_88_43 {B : zeB} {im : Nat → Nat → Int32} {lm : Nat → Nat → Int64} (l1 : Int32) (l2 : Int32) (o3 : Option Value)  : zeRun 88 43 [some (.ref 170), some (.int l1), some (.int l2), o3] [] (zk B im lm) = zeRun 88 48 [some (.ref 170), some (.int l1), some (.int l2), o3] [.int 1] (zk B im lm) := ze_go (ok := true) rfl 2 rfl rfl
theorem d_88_47 {B : zeB} {im : Nat → Nat → Int32} {lm : Nat → Nat → Int64} (l1 : Int32) (l2 : Int32) (o3 : Option Value)  : zeRun 88 47 [some (.ref 170), some (.int l1), some (.int l2), o3] [] (zk B im lm) = zeRun 88 48 [some (.ref 170), some (.int l1), some (.int l2), o3] [.int 0] (zk B im lm) := ze_go (ok := true) rfl 1 rfl rfl
theorem d_88_48 {B : zeB} {im : Nat → Nat → Int32} {lm : Nat → Nat → Int64} (l1 : Int32) (l2 : Int32) (o3 : Option Value) (s0 : Int32)  : zeRun 88 48 [some (.ref 170), some (.int l1), some (.int l2), o3] [.int s0] (zk B im lm) = if s0 = 0 then zeRun 88 82 [some (.ref 170), some (.int l1), some (.int l2), some (.int s0)] [] (zk B im lm) else zeRun 88 53 [some (.ref 170), some (.int l1), some (.int l2), some (.int s0)] [] (zk B im lm) := ze_if (ok := true) rfl 3 rfl rfl
theorem d_88_82 {B : zeB} {im : Nat → Nat → Int32} {lm : Nat → Nat → Int64} (l1 : Int32) (l2 : Int32) (o3 : Option Value)  : zeRun 88 82 [some (.ref 170), some (.int l1), some (.int l2), o3] [] (zk B im lm) = zeRun 88 4 [some (.ref 170), some (.int l1), some (.int (l2 + 1)), o3] [] (zk B im lm) := ze_go (ok := true) rfl 4 rfl rfl
theorem d_88_53 {B : zeB} {im : Nat → Nat → Int32} {lm : Nat → Nat → Int64} (l1 : Int32) (l2 : Int32) (o3 : Option Value)  : zeRun 88 53 [some (.ref 170), some (.int l1), some (.int l2), o3] [] (zk B im lm) = if l1 < 0 then zeRun 88 78 [some (.ref 170), some (.int l1), some (.int l2), o3] [] (zk B im lm) else zeRun 88 57 [some (.ref 170), some (.int l1), some (.int l2), o3] [] (zk B im lm) := ze_if (ok := true) rfl 2 rfl rfl
theorem d_88_78 {B : zeB} {im : Nat → Nat → Int32} {lm : Nat → Nat → Int64} (o1 : Option Value) (l2 : Int32) (o3 : Option Value)  : zeRun 88 78 [some (.ref 170), o1, some (.int l2), o3] [] (zk B im lm) = zeRun 88 4 [some (.ref 170), some (.int l2), some (.int (l2 + 1)), o3] [] (zk B im lm) := ze_go (ok := true) rfl 5 rfl rfl
theorem d_88_57 {B : zeB} {im : Nat → Nat → Int32} {lm : Nat → Nat → Int64} (l1 : Int32) (l2 : Int32) (o3 : Option Value) (c0 : zeInb (16 + l2) 360 = true) (c1 : zeInb (16 + l1) 360 = true) : zeRun 88 57 [some (.ref 170), some (.int l1), some (.int l2), o3] [] (zk B im lm) = if (im 171 (Int32.toNatClampNeg (16 + l1))) ≤ (im 171 (Int32.toNatClampNeg (16 + l2))) then zeRun 88 82 [some (.ref 170), some (.int l1), some (.int l2), o3] [] (zk B im lm) else zeRun 88 78 [some (.ref 170), some (.int l1), some (.int l2), o3] [] (zk B im lm) := ze_if (ok := (zeInb (16 + l1) 360 && (zeInb (16 + l2) 360 && true))) rfl 13 rfl (zeA2 c1 (zeA2 c0 rfl))
def J_88_48 (K4 : Int32 → Int32 → zI → zJ → zR) (l1 : Int32) (l2 : Int32) (s0 : Int32) (im : zI) (lm : zJ) : zR :=
    zCk (if s0 = 0 then true else if l1 < 0 then true else zeInb (16 + l2) 360) <|
    zCk (if s0 = 0 then true else if l1 < 0 then true else zeInb (16 + l1) 360) <|
    K4 (if s0 = 0 then l1 else if l1 < 0 then l2 else if (im 171 (Int32.toNatClampNeg (16 + l1))) ≤ (im 171 (Int32.toNatClampNeg (16 + l2))) then l1 else l2) (l2 + 1) im lm
theorem J_88_48_ok {B : zeB} (K4 : Int32 → Int32 → zI → zJ → zR) (hK4 : ∀ (l1 : Int32) (l2 : Int32) (o3 : Option Value) (im : zI) (lm : zJ), zL B 1 (K4 l1 l2 im lm) (zeRun 88 4 [some (.ref 170), some (.int l1), some (.int l2), o3] [] (zk B im lm))) (l1 : Int32) (l2 : Int32) (s0 : Int32) (o3 : Option Value) (im : zI) (lm : zJ) : zL B 1 (J_88_48 K4 l1 l2 s0 im lm) (zeRun 88 48 [some (.ref 170), some (.int l1), some (.int l2), o3] [.int s0] (zk B im lm)) := by
  unfold J_88_48
  refine zL_ifm (d_88_48 _ _ _ _) (fun h => ?_) (fun h => ?_)
  · repeat rw [if_pos h]
    refine zL_eq (d_88_82 _ _ _) ?_
    refine zL_ckt ?_
    refine zL_ckt ?_
    exact hK4 _ _ _ _ _
  · repeat rw [if_neg h]
    refine zL_ifm (d_88_53 _ _ _) (fun h => ?_) (fun h => ?_)
    · repeat rw [if_pos h]
      refine zL_eq (d_88_78 _ _ _) ?_
      refine zL_ckt ?_
      refine zL_ckt ?_
      exact hK4 _ _ _ _ _
    · repeat rw [if_neg h]
      refine zL_ck fun c1 => ?_
      refine zL_ck fun c2 => ?_
      refine zL_ifm (d_88_57 _ _ _ c1 c2) (fun h => ?_) (fun h => ?_)
      · repeat rw [if_pos h]
        refine zL_eq (d_88_82 _ _ _) ?_
        exact hK4 _ _ _ _ _
      · repeat rw [if_neg h]
        refine zL_eq (d_88_78 _ _ _) ?_
        exact hK4 _ _ _ _ _
def F_88_4  : Nat → Int32 → Int32 → zI → zJ → zR
  | 0, _, _, _, _ => none
  | n + 1, l1, l2, im, lm =>
    if (im 171 1) ≤ l2 then
      some (l1, im, lm)
    else
      J_88_48 (F_88_4  n)  l1 l2 (if (((im 171 13) >>> (l2 &&& 31)) &&& 1) = 1 then if (((im 171 14) >>> (l2 &&& 31)) &&& 1) = 0 then 1 else 0 else 0) im lm
theorem F_88_4_ok {B : zeB} : ∀ (n : Nat) (l1 : Int32) (l2 : Int32) (o3 : Option Value) (im : zI) (lm : zJ), zL B 1 (F_88_4  n l1 l2 im lm) (zeRun 88 4 [some (.ref 170), some (.int l1), some (.int l2), o3] [] (zk B im lm)) := by
  intro n
  induction n with
  | zero => intros; exact zL_none
  | succ n ih =>
    intro l1 l2 o3 im lm
    unfold F_88_4
    refine zL_if (d_88_4 _ _ _) (fun h => ?_) (fun h => ?_)
    · skip
      exact zL_ret (d_88_90 _ _ _ _)
    · skip
      refine zL_ifm (d_88_14 _ _ _) (fun h => ?_) (fun h => ?_)
      · repeat rw [if_pos h]
        refine zL_ifm (d_88_29 _ _ _) (fun h => ?_) (fun h => ?_)
        · repeat rw [if_pos h]
          refine zL_eq (d_88_43 _ _ _) ?_
          exact J_88_48_ok _ ih  _ _ _ _ _ _
        · repeat rw [if_neg h]
          refine zL_eq (d_88_47 _ _ _) ?_
          exact J_88_48_ok _ ih  _ _ _ _ _ _
      · repeat rw [if_neg h]
        refine zL_eq (d_88_47 _ _ _) ?_
        exact J_88_48_ok _ ih  _ _ _ _ _ _
def m_88  (im : zI) (lm : zJ) : zR :=
    F_88_4  2000 (-1) 0 im lm
theorem m_88_ok {B : zeB}  (im : zI) (lm : zJ) : zL B 1 (m_88  im lm) (zeRun 88 0 [some (.ref 170), none, none, none] [] (zk B im lm)) := by
  unfold m_88
  refine zL_eq (d_88_0 _ _ _) ?_
  exact F_88_4_ok  _ _ _ _ _ _
/-! X8_enter -/
theorem d_89_0 {B : zeB} {im : Nat → Nat → Int32} {lm : Nat → Nat → Int64} (l1 : Int32) (l2 : Int32) (l3 : Int32) (l4 : Int32) (l5 : Int32) (o6 : Option Value)  : zeRun 89 0 [some (.ref 170), some (.int l1), some (.int l2), some (.int l3), some (.int l4), some (.int l5), o6] [] (zk B im lm) = zeBh 89 9 [some (.ref 170), some (.int l1), some (.int l2), some (.int l3), some (.int l4), some (.int l5), o6] [] (zeRun 45 0 [some (.int (im 171 5))] [] (zk B im lm)) := ze_call (ok := true) rfl 5 rfl rfl rfl
theorem d_89_9 {B : zeB} {im : Nat → Nat → Int32} {lm : Nat → Nat → Int64} (l1 : Int32) (l2 : Int32) (l3 : Int32) (l4 : Int32) (l5 : Int32) (o6 : Option Value) (s0 : Int32) (c0 : zeInb s0 360 = true) (c1 : zeInb (s0 + 1) 360 = true) (c2 : zeInb (s0 + 2) 360 = true) (c3 : zeInb (s0 + 3) 360 = true) (c4 : zeInb (s0 + 4) 360 = true) : zeRun 89 9 [some (.ref 170), some (.int l1), some (.int l2), some (.int l3), some (.int l4), some (.int l5), o6] [.int s0] (zk B im lm) = some (none, (zk B (zeU2 (zeU2 (zeU2 (zeU2 (zeU2 (zeU2 im 171 (Int32.toNatClampNeg s0) l1) 171 (Int32.toNatClampNeg (s0 + 1)) l2) 171 (Int32.toNatClampNeg (s0 + 2)) l3) 171 (Int32.toNatClampNeg (s0 + 3)) l4) 171 (Int32.toNatClampNeg (s0 + 4)) l5) 171 5 (((zeU2 (zeU2 (zeU2 (zeU2 (zeU2 im 171 (Int32.toNatClampNeg s0) l1) 171 (Int32.toNatClampNeg (s0 + 1)) l2) 171 (Int32.toNatClampNeg (s0 + 2)) l3) 171 (Int32.toNatClampNeg (s0 + 3)) l4) 171 (Int32.toNatClampNeg (s0 + 4)) l5) 171 5) + 1)) lm)) := ze_ret (ok := (zeInb (s0 + 4) 360 && (zeInb (s0 + 3) 360 && (zeInb (s0 + 2) 360 && (zeInb (s0 + 1) 360 && (zeInb s0 360 && true)))))) rfl 43 rfl (zeA2 c4 (zeA2 c3 (zeA2 c2 (zeA2 c1 (zeA2 c0 rfl)))))
def m_89 (l1 : Int32) (l2 : Int32) (l3 : Int32) (l4 : Int32) (l5 : Int32) (im : zI) (lm : zJ) : zR :=
    zCk (zeInb ((60 + (5 * (im 171 5))) : Int32) 360) <|
    zCk (zeInb (((60 + (5 * (im 171 5))) : Int32) + 1) 360) <|
    zCk (zeInb (((60 + (5 * (im 171 5))) : Int32) + 2) 360) <|
    zCk (zeInb (((60 + (5 * (im 171 5))) : Int32) + 3) 360) <|
    zCk (zeInb (((60 + (5 * (im 171 5))) : Int32) + 4) 360) <|
    some (0, (zeU2 (zeU2 (zeU2 (zeU2 (zeU2 (zeU2 im 171 (Int32.toNatClampNeg ((60 + (5 * (im 171 5))) : Int32)) l1) 171 (Int32.toNatClampNeg (((60 + (5 * (im 171 5))) : Int32) + 1)) l2) 171 (Int32.toNatClampNeg (((60 + (5 * (im 171 5))) : Int32) + 2)) l3) 171 (Int32.toNatClampNeg (((60 + (5 * (im 171 5))) : Int32) + 3)) l4) 171 (Int32.toNatClampNeg (((60 + (5 * (im 171 5))) : Int32) + 4)) l5) 171 5 (((zeU2 (zeU2 (zeU2 (zeU2 (zeU2 im 171 (Int32.toNatClampNeg ((60 + (5 * (im 171 5))) : Int32)) l1) 171 (Int32.toNatClampNeg (((60 + (5 * (im 171 5))) : Int32) + 1)) l2) 171 (Int32.toNatClampNeg (((60 + (5 * (im 171 5))) : Int32) + 2)) l3) 171 (Int32.toNatClampNeg (((60 + (5 * (im 171 5))) : Int32) + 3)) l4) 171 (Int32.toNatClampNeg (((60 + (5 * (im 171 5))) : Int32) + 4)) l5) 171 5) + 1)), lm)
theorem m_89_ok {B : zeB} (l1 : Int32) (l2 : Int32) (l3 : Int32) (l4 : Int32) (l5 : Int32) (im : zI) (lm : zJ) : zL B 0 (m_89 l1 l2 l3 l4 l5 im lm) (zeRun 89 0 [some (.ref 170), some (.int l1), some (.int l2), some (.int l3), some (.int l4), some (.int l5), none] [] (zk B im lm)) := by
  unfold m_89
  refine zL_bdp (e := ((60 + (5 * (im 171 5))) : Int32)) (d_89_0 _ _ _ _ _ _) (m_45_ok _ _ _) ?_
  refine zL_ck fun c1 => ?_
  refine zL_ck fun c2 => ?_
  refine zL_ck fun c3 => ?_
  refine zL_ck fun c4 => ?_
  refine zL_ck fun c5 => ?_
  exact zL_retv (d_89_9 _ _ _ _ _ _ _ c1 c2 c3 c4 c5)
