/-! pure: X4_replayEntry, X4_run, X7_replayedScore, X7_answerOpenClue, X7_answerWagerClue, X0_isEarlier, X0_turnOf -/
/-! X4_replayEntry -/
theorem d_75_0 {B : zeB} {im : Nat → Nat → Int32} {lm : Nat → Nat → Int64} (l2 : Int32) (o3 : Option Value) (o4 : Option Value) (c0 : zeInb l2 60 = true) (c1 : zeInb l2 60 = true) (c2 : zeInb l2 60 = true) : zeRun 75 0 [some (.ref 32), some (.ref 26), some (.int l2), o3, o4] [] (zk B im lm) = if (im 28 (Int32.toNatClampNeg l2)) = 1 then zeRun 75 30 [some (.ref 32), some (.ref 26), some (.int l2), some (.int (im 27 (Int32.toNatClampNeg l2))), some (.int (im 30 (Int32.toNatClampNeg l2)))] [.int l2, .ref 40] (zk B im lm) else zeRun 75 49 [some (.ref 32), some (.ref 26), some (.int l2), some (.int (im 27 (Int32.toNatClampNeg l2))), some (.int (im 30 (Int32.toNatClampNeg l2)))] [.int l2, .ref 40] (zk B im lm) := ze_if (ok := (zeInb l2 60 && (zeInb l2 60 && (zeInb l2 60 && true)))) rfl 19 rfl (zeA2 c2 (zeA2 c1 (zeA2 c0 rfl)))
theorem d_75_30 {B : zeB} {im : Nat → Nat → Int32} {lm : Nat → Nat → Int64} (l2 : Int32) (l3 : Int32) (l4 : Int32) (s1 : Int32) (c0 : zeInb l2 60 = true) : zeRun 75 30 [some (.ref 32), some (.ref 26), some (.int l2), some (.int l3), some (.int l4)] [.int s1, .ref 40] (zk B im lm) = zeBh 75 40 [some (.ref 32), some (.ref 26), some (.int l2), some (.int l3), some (.int l4)] [.int s1, .ref 40] (zeRun 72 0 [some (.ref 32), some (.int (im 29 (Int32.toNatClampNeg l2)))] [] (zk B im lm)) := ze_call (ok := (zeInb l2 60 && true)) rfl 6 rfl rfl (zeA2 c0 rfl)
theorem d_75_40 {B : zeB} {im : Nat → Nat → Int32} {lm : Nat → Nat → Int64} (l2 : Int32) (l3 : Int32) (l4 : Int32) (s1 : Int32) (s2 : Int32)  : zeRun 75 40 [some (.ref 32), some (.ref 26), some (.int l2), some (.int l3), some (.int l4)] [.int s2, .int s1, .ref 40] (zk B im lm) = if s2 = (-10000005) then zeRun 75 49 [some (.ref 32), some (.ref 26), some (.int l2), some (.int l3), some (.int l4)] [.int s1, .ref 40] (zk B im lm) else zeRun 75 45 [some (.ref 32), some (.ref 26), some (.int l2), some (.int l3), some (.int l4)] [.int s1, .ref 40] (zk B im lm) := ze_if (ok := true) rfl 2 rfl rfl
theorem d_75_49 {B : zeB} {im : Nat → Nat → Int32} {lm : Nat → Nat → Int64} (l2 : Int32) (l3 : Int32) (l4 : Int32) (s1 : Int32)  : zeRun 75 49 [some (.ref 32), some (.ref 26), some (.int l2), some (.int l3), some (.int l4)] [.int s1, .ref 40] (zk B im lm) = zeRun 75 50 [some (.ref 32), some (.ref 26), some (.int l2), some (.int l3), some (.int l4)] [.int 0, .int s1, .ref 40] (zk B im lm) := ze_go (ok := true) rfl 1 rfl rfl
theorem d_75_45 {B : zeB} {im : Nat → Nat → Int32} {lm : Nat → Nat → Int64} (l2 : Int32) (l3 : Int32) (l4 : Int32) (s1 : Int32)  : zeRun 75 45 [some (.ref 32), some (.ref 26), some (.int l2), some (.int l3), some (.int l4)] [.int s1, .ref 40] (zk B im lm) = zeRun 75 50 [some (.ref 32), some (.ref 26), some (.int l2), some (.int l3), some (.int l4)] [.int 1, .int s1, .ref 40] (zk B im lm) := ze_go (ok := true) rfl 2 rfl rfl
theorem d_75_50 {B : zeB} {im : Nat → Nat → Int32} {lm : Nat → Nat → Int64} (l2 : Int32) (l3 : Int32) (l4 : Int32) (s1 : Int32) (s2 : Int32) (c0 : zeInb s1 60 = true) (c1 : zeInb l2 60 = true) : zeRun 75 50 [some (.ref 32), some (.ref 26), some (.int l2), some (.int l3), some (.int l4)] [.int s2, .int s1, .ref 40] (zk B im lm) = if ((zeU2 im 40 (Int32.toNatClampNeg s1) (vp_nar .boolean s2)) 40 (Int32.toNatClampNeg l2)) = 0 then zeRun 75 69 [some (.ref 32), some (.ref 26), some (.int l2), some (.int l3), some (.int l4)] [.int l2, .ref 38] (zk B (zeU2 im 40 (Int32.toNatClampNeg s1) (vp_nar .boolean s2)) lm) else zeRun 75 65 [some (.ref 32), some (.ref 26), some (.int l2), some (.int l3), some (.int l4)] [.int l2, .ref 38] (zk B (zeU2 im 40 (Int32.toNatClampNeg s1) (vp_nar .boolean s2)) lm) := ze_if (ok := (zeInb l2 60 && (zeInb s1 60 && true))) rfl 9 rfl (zeA2 c1 (zeA2 c0 rfl))
theorem d_75_69 {B : zeB} {im : Nat → Nat → Int32} {lm : Nat → Nat → Int64} (l2 : Int32) (l3 : Int32) (l4 : Int32) (s1 : Int32) (c0 : zeInb l2 60 = true) (c1 : zeInb l3 6 = true) : zeRun 75 69 [some (.ref 32), some (.ref 26), some (.int l2), some (.int l3), some (.int l4)] [.int s1, .ref 38] (zk B im lm) = zeBh 75 86 [some (.ref 32), some (.ref 26), some (.int l2), some (.int l3), some (.int l4)] [.int s1, .ref 38] (zeRun 73 0 [some (.int l4), some (.int (im 28 (Int32.toNatClampNeg l2))), some (.int (im 33 (Int32.toNatClampNeg l3)))] [] (zk B im lm)) := ze_call (ok := (zeInb l3 6 && (zeInb l2 60 && true))) rfl 10 rfl rfl (zeA2 c1 (zeA2 c0 rfl))
theorem d_75_65 {B : zeB} {im : Nat → Nat → Int32} {lm : Nat → Nat → Int64} (l2 : Int32) (l3 : Int32) (l4 : Int32) (s1 : Int32)  : zeRun 75 65 [some (.ref 32), some (.ref 26), some (.int l2), some (.int l3), some (.int l4)] [.int s1, .ref 38] (zk B im lm) = zeRun 75 86 [some (.ref 32), some (.ref 26), some (.int l2), some (.int l3), some (.int l4)] [.int 0, .int s1, .ref 38] (zk B im lm) := ze_go (ok := true) rfl 2 rfl rfl
theorem d_75_86 {B : zeB} {im : Nat → Nat → Int32} {lm : Nat → Nat → Int64} (l2 : Int32) (l3 : Int32) (l4 : Int32) (s1 : Int32) (s2 : Int32) (c0 : zeInb s1 60 = true) (c1 : zeInb l2 60 = true) : zeRun 75 86 [some (.ref 32), some (.ref 26), some (.int l2), some (.int l3), some (.int l4)] [.int s2, .int s1, .ref 38] (zk B im lm) = if (im 28 (Int32.toNatClampNeg l2)) = 4 then zeRun 75 97 [some (.ref 32), some (.ref 26), some (.int l2), some (.int l3), some (.int l4)] [] (zk B (zeU2 im 38 (Int32.toNatClampNeg s1) s2) lm) else zeRun 75 122 [some (.ref 32), some (.ref 26), some (.int l2), some (.int l3), some (.int l4)] [] (zk B (zeU2 im 38 (Int32.toNatClampNeg s1) s2) lm) := ze_if (ok := (zeInb l2 60 && (zeInb s1 60 && true))) rfl 7 rfl (zeA2 c1 (zeA2 c0 rfl))
theorem d_75_97 {B : zeB} {im : Nat → Nat → Int32} {lm : Nat → Nat → Int64} (o1 : Option Value) (l2 : Int32) (l3 : Int32) (l4 : Int32) (c0 : zeInb l3 6 = true) (c1 : zeInb l3 6 = true) (c2 : zeInb l3 6 = true) (c3 : zeInb l3 6 = true) : zeRun 75 97 [some (.ref 32), o1, some (.int l2), some (.int l3), some (.int l4)] [] (zk B im lm) = zeRun 75 204 [some (.ref 32), o1, some (.int l2), some (.int l3), some (.int l4)] [] (zk B (zeU2 (zeU2 im 33 (Int32.toNatClampNeg l3) ((im 33 (Int32.toNatClampNeg l3)) + l4)) 36 (Int32.toNatClampNeg l3) ((im 36 (Int32.toNatClampNeg l3)) + l4)) lm) := ze_go (ok := (zeInb l3 6 && (zeInb l3 6 && (zeInb l3 6 && (zeInb l3 6 && true))))) rfl 17 rfl (zeA2 c3 (zeA2 c2 (zeA2 c1 (zeA2 c0 rfl))))
theorem d_75_122 {B : zeB} {im : Nat → Nat → Int32} {lm : Nat → Nat → Int64} (l2 : Int32) (l3 : Int32) (o4 : Option Value) (c0 : zeInb l2 60 = true) : zeRun 75 122 [some (.ref 32), some (.ref 26), some (.int l2), some (.int l3), o4] [] (zk B im lm) = if (im 31 (Int32.toNatClampNeg l2)) = 1 then zeRun 75 132 [some (.ref 32), some (.ref 26), some (.int l2), some (.int l3), o4] [] (zk B im lm) else zeRun 75 170 [some (.ref 32), some (.ref 26), some (.int l2), some (.int l3), o4] [] (zk B im lm) := ze_if (ok := (zeInb l2 60 && true)) rfl 6 rfl (zeA2 c0 rfl)
theorem d_75_132 {B : zeB} {im : Nat → Nat → Int32} {lm : Nat → Nat → Int64} (l2 : Int32) (l3 : Int32) (o4 : Option Value) (c0 : zeInb l3 6 = true) (c1 : zeInb l2 60 = true) (c2 : zeInb l3 6 = true) (c3 : zeInb l2 60 = true) : zeRun 75 132 [some (.ref 32), some (.ref 26), some (.int l2), some (.int l3), o4] [] (zk B im lm) = if (im 40 (Int32.toNatClampNeg l2)) = 0 then zeRun 75 156 [some (.ref 32), some (.ref 26), some (.int l2), some (.int l3), o4] [] (zk B (zeU2 im 33 (Int32.toNatClampNeg l3) ((im 33 (Int32.toNatClampNeg l3)) + (im 38 (Int32.toNatClampNeg l2)))) lm) else zeRun 75 204 [some (.ref 32), some (.ref 26), some (.int l2), some (.int l3), o4] [] (zk B (zeU2 im 33 (Int32.toNatClampNeg l3) ((im 33 (Int32.toNatClampNeg l3)) + (im 38 (Int32.toNatClampNeg l2)))) lm) := ze_if (ok := (zeInb l2 60 && (zeInb l3 6 && (zeInb l2 60 && (zeInb l3 6 && true))))) rfl 16 rfl (zeA2 c3 (zeA2 c2 (zeA2 c1 (zeA2 c0 rfl))))
theorem d_75_156 {B : zeB} {im : Nat → Nat → Int32} {lm : Nat → Nat → Int64} (l2 : Int32) (l3 : Int32) (o4 : Option Value) (c0 : zeInb l2 60 = true) : zeRun 75 156 [some (.ref 32), some (.ref 26), some (.int l2), some (.int l3), o4] [] (zk B im lm) = zeBh 75 167 [some (.ref 32), some (.ref 26), some (.int l2), some (.int l3), o4] [] (zeRun 74 0 [some (.ref 32), some (.int l3), some (.int (im 29 (Int32.toNatClampNeg l2)))] [] (zk B im lm)) := ze_call (ok := (zeInb l2 60 && true)) rfl 7 rfl rfl (zeA2 c0 rfl)
theorem d_75_167 {B : zeB} {im : Nat → Nat → Int32} {lm : Nat → Nat → Int64} (o1 : Option Value) (l2 : Int32) (l3 : Int32) (o4 : Option Value)  : zeRun 75 167 [some (.ref 32), o1, some (.int l2), some (.int l3), o4] [] (zk B im lm) = zeRun 75 204 [some (.ref 32), o1, some (.int l2), some (.int l3), o4] [] (zk B im lm) := ze_go (ok := true) rfl 1 rfl rfl
theorem d_75_170 {B : zeB} {im : Nat → Nat → Int32} {lm : Nat → Nat → Int64} (o1 : Option Value) (l2 : Int32) (l3 : Int32) (o4 : Option Value) (c0 : zeInb l3 6 = true) (c1 : zeInb l2 60 = true) (c2 : zeInb l3 6 = true) (c3 : zeInb l2 60 = true) : zeRun 75 170 [some (.ref 32), o1, some (.int l2), some (.int l3), o4] [] (zk B im lm) = if (im 40 (Int32.toNatClampNeg l2)) = 0 then zeRun 75 194 [some (.ref 32), o1, some (.int l2), some (.int l3), o4] [] (zk B (zeU2 im 33 (Int32.toNatClampNeg l3) ((im 33 (Int32.toNatClampNeg l3)) - (im 38 (Int32.toNatClampNeg l2)))) lm) else zeRun 75 204 [some (.ref 32), o1, some (.int l2), some (.int l3), o4] [] (zk B (zeU2 im 33 (Int32.toNatClampNeg l3) ((im 33 (Int32.toNatClampNeg l3)) - (im 38 (Int32.toNatClampNeg l2)))) lm) := ze_if (ok := (zeInb l2 60 && (zeInb l3 6 && (zeInb l2 60 && (zeInb l3 6 && true))))) rfl 16 rfl (zeA2 c3 (zeA2 c2 (zeA2 c1 (zeA2 c0 rfl))))
theorem d_75_194 {B : zeB} {im : Nat → Nat → Int32} {lm : Nat → Nat → Int64} (o1 : Option Value) (l2 : Int32) (l3 : Int32) (o4 : Option Value) (c0 : zeInb l3 6 = true) (c1 : zeInb l3 6 = true) : zeRun 75 194 [some (.ref 32), o1, some (.int l2), some (.int l3), o4] [] (zk B im lm) = zeRun 75 204 [some (.ref 32), o1, some (.int l2), some (.int l3), o4] [] (zk B (zeU2 im 35 (Int32.toNatClampNeg l3) ((im 35 (Int32.toNatClampNeg l3)) + 1)) lm) := ze_go (ok := (zeInb l3 6 && (zeInb l3 6 && true))) rfl 8 rfl (zeA2 c1 (zeA2 c0 rfl))
theorem d_75_204 {B : zeB} {im : Nat → Nat → Int32} {lm : Nat → Nat → Int64} (o1 : Option Value) (l2 : Int32) (l3 : Int32) (o4 : Option Value) (c0 : zeInb l3 6 = true) (c1 : zeInb l2 60 = true) : zeRun 75 204 [some (.ref 32), o1, some (.int l2), some (.int l3), o4] [] (zk B im lm) = some (none, (zk B (zeU2 im 39 (Int32.toNatClampNeg l2) (im 33 (Int32.toNatClampNeg l3))) lm)) := ze_ret (ok := (zeInb l2 60 && (zeInb l3 6 && true))) rfl 9 rfl (zeA2 c1 (zeA2 c0 rfl))
def J_75_204  (l2 : Int32) (l3 : Int32) (im : zI) (lm : zJ) : zR :=
    zCk (zeInb l3 6) <|
    zCk (zeInb l2 60) <|
    some (0, (zeU2 im 39 (Int32.toNatClampNeg l2) (im 33 (Int32.toNatClampNeg l3))), lm)
theorem J_75_204_ok {B : zeB} (l2 : Int32) (l3 : Int32) (o1 : Option Value) (o4 : Option Value) (im : zI) (lm : zJ) : zL B 0 (J_75_204  l2 l3 im lm) (zeRun 75 204 [some (.ref 32), o1, some (.int l2), some (.int l3), o4] [] (zk B im lm)) := by
  unfold J_75_204
  refine zL_ck fun c1 => ?_
  refine zL_ck fun c2 => ?_
  exact zL_retv (d_75_204 _ _ _ _ c1 c2)
def J_75_86  (l2 : Int32) (l3 : Int32) (l4 : Int32) (s1 : Int32) (s2 : Int32) (im : zI) (lm : zJ) : zR :=
    zCk (zeInb s1 60) <|
    zCk (zeInb l2 60) <|
    if (im 28 (Int32.toNatClampNeg l2)) = 4 then
      zCk (zeInb l3 6) <|
      J_75_204   l2 l3 (zeU2 (zeU2 (zeU2 im 38 (Int32.toNatClampNeg s1) s2) 33 (Int32.toNatClampNeg l3) (((zeU2 im 38 (Int32.toNatClampNeg s1) s2) 33 (Int32.toNatClampNeg l3)) + l4)) 36 (Int32.toNatClampNeg l3) (((zeU2 im 38 (Int32.toNatClampNeg s1) s2) 36 (Int32.toNatClampNeg l3)) + l4)) lm
    else
      if ((zeU2 im 38 (Int32.toNatClampNeg s1) s2) 31 (Int32.toNatClampNeg l2)) = 1 then
        zCk (zeInb l3 6) <|
        if ((zeU2 im 38 (Int32.toNatClampNeg s1) s2) 40 (Int32.toNatClampNeg l2)) = 0 then
          zBd (m_74 l3 ((zeU2 (zeU2 im 38 (Int32.toNatClampNeg s1) s2) 33 (Int32.toNatClampNeg l3) (((zeU2 im 38 (Int32.toNatClampNeg s1) s2) 33 (Int32.toNatClampNeg l3)) + ((zeU2 im 38 (Int32.toNatClampNeg s1) s2) 38 (Int32.toNatClampNeg l2)))) 29 (Int32.toNatClampNeg l2)) (zeU2 (zeU2 im 38 (Int32.toNatClampNeg s1) s2) 33 (Int32.toNatClampNeg l3) (((zeU2 im 38 (Int32.toNatClampNeg s1) s2) 33 (Int32.toNatClampNeg l3)) + ((zeU2 im 38 (Int32.toNatClampNeg s1) s2) 38 (Int32.toNatClampNeg l2)))) lm) fun _ im1 lm1 =>
          J_75_204   l2 l3 im1 lm1
        else
          J_75_204   l2 l3 (zeU2 (zeU2 im 38 (Int32.toNatClampNeg s1) s2) 33 (Int32.toNatClampNeg l3) (((zeU2 im 38 (Int32.toNatClampNeg s1) s2) 33 (Int32.toNatClampNeg l3)) + ((zeU2 im 38 (Int32.toNatClampNeg s1) s2) 38 (Int32.toNatClampNeg l2)))) lm
      else
        zCk (zeInb l3 6) <|
        J_75_204   l2 l3 (if ((zeU2 im 38 (Int32.toNatClampNeg s1) s2) 40 (Int32.toNatClampNeg l2)) = 0 then (zeU2 (zeU2 (zeU2 im 38 (Int32.toNatClampNeg s1) s2) 33 (Int32.toNatClampNeg l3) (((zeU2 im 38 (Int32.toNatClampNeg s1) s2) 33 (Int32.toNatClampNeg l3)) - ((zeU2 im 38 (Int32.toNatClampNeg s1) s2) 38 (Int32.toNatClampNeg l2)))) 35 (Int32.toNatClampNeg l3) (((zeU2 (zeU2 im 38 (Int32.toNatClampNeg s1) s2) 33 (Int32.toNatClampNeg l3) (((zeU2 im 38 (Int32.toNatClampNeg s1) s2) 33 (Int32.toNatClampNeg l3)) - ((zeU2 im 38 (Int32.toNatClampNeg s1) s2) 38 (Int32.toNatClampNeg l2)))) 35 (Int32.toNatClampNeg l3)) + 1)) else (zeU2 (zeU2 im 38 (Int32.toNatClampNeg s1) s2) 33 (Int32.toNatClampNeg l3) (((zeU2 im 38 (Int32.toNatClampNeg s1) s2) 33 (Int32.toNatClampNeg l3)) - ((zeU2 im 38 (Int32.toNatClampNeg s1) s2) 38 (Int32.toNatClampNeg l2))))) lm
theorem J_75_86_ok {B : zeB} (l2 : Int32) (l3 : Int32) (l4 : Int32) (s1 : Int32) (s2 : Int32)  (im : zI) (lm : zJ) : zL B 0 (J_75_86  l2 l3 l4 s1 s2 im lm) (zeRun 75 86 [some (.ref 32), some (.ref 26), some (.int l2), some (.int l3), some (.int l4)] [.int s2, .int s1, .ref 38] (zk B im lm)) := by
  unfold J_75_86
  refine zL_ck fun c1 => ?_
  refine zL_ck fun c2 => ?_
  refine zL_if (d_75_86 _ _ _ _ _ c1 c2) (fun h => ?_) (fun h => ?_)
  · skip
    refine zL_ck fun c3 => ?_
    refine zL_eq (d_75_97 _ _ _ _ c3 c3 c3 c3) ?_
    exact J_75_204_ok   _ _ _ _ _ _
  · skip
    refine zL_if (d_75_122 _ _ _ c2) (fun h => ?_) (fun h => ?_)
    · skip
      refine zL_ck fun c4 => ?_
      refine zL_if (d_75_132 _ _ _ c4 c2 c4 c2) (fun h => ?_) (fun h => ?_)
      · skip
        refine zL_bdv (d_75_156 _ _ _ c2) (m_74_ok _ _ _ _) fun _ im1 lm1 => ?_
        refine zL_eq (d_75_167 _ _ _ _) ?_
        exact J_75_204_ok   _ _ _ _ _ _
      · skip
        exact J_75_204_ok   _ _ _ _ _ _
    · skip
      refine zL_ck fun c5 => ?_
      refine zL_ifm (d_75_170 _ _ _ _ c5 c2 c5 c2) (fun h => ?_) (fun h => ?_)
      · repeat rw [if_pos h]
        refine zL_eq (d_75_194 _ _ _ _ c5 c5) ?_
        exact J_75_204_ok   _ _ _ _ _ _
      · repeat rw [if_neg h]
        exact J_75_204_ok   _ _ _ _ _ _
def J_75_50  (l2 : Int32) (l3 : Int32) (l4 : Int32) (s1 : Int32) (s2 : Int32) (im : zI) (lm : zJ) : zR :=
    zCk (zeInb s1 60) <|
    zCk (zeInb l2 60) <|
    zCk (if ((zeU2 im 40 (Int32.toNatClampNeg s1) (vp_nar .boolean s2)) 40 (Int32.toNatClampNeg l2)) = 0 then zeInb l3 6 else true) <|
    J_75_86   l2 l3 l4 l2 (if ((zeU2 im 40 (Int32.toNatClampNeg s1) (vp_nar .boolean s2)) 40 (Int32.toNatClampNeg l2)) = 0 then (if ((zeU2 im 40 (Int32.toNatClampNeg s1) (vp_nar .boolean s2)) 28 (Int32.toNatClampNeg l2)) = 2 then (if (if ((zeU2 im 40 (Int32.toNatClampNeg s1) (vp_nar .boolean s2)) 33 (Int32.toNatClampNeg l3)) < 500 then 500 else ((zeU2 im 40 (Int32.toNatClampNeg s1) (vp_nar .boolean s2)) 33 (Int32.toNatClampNeg l3))) < l4 then (if ((zeU2 im 40 (Int32.toNatClampNeg s1) (vp_nar .boolean s2)) 33 (Int32.toNatClampNeg l3)) < 500 then 500 else ((zeU2 im 40 (Int32.toNatClampNeg s1) (vp_nar .boolean s2)) 33 (Int32.toNatClampNeg l3))) else l4) else if ((zeU2 im 40 (Int32.toNatClampNeg s1) (vp_nar .boolean s2)) 28 (Int32.toNatClampNeg l2)) = 3 then (if (if ((zeU2 im 40 (Int32.toNatClampNeg s1) (vp_nar .boolean s2)) 33 (Int32.toNatClampNeg l3)) < 0 then 0 else ((zeU2 im 40 (Int32.toNatClampNeg s1) (vp_nar .boolean s2)) 33 (Int32.toNatClampNeg l3))) < l4 then (if ((zeU2 im 40 (Int32.toNatClampNeg s1) (vp_nar .boolean s2)) 33 (Int32.toNatClampNeg l3)) < 0 then 0 else ((zeU2 im 40 (Int32.toNatClampNeg s1) (vp_nar .boolean s2)) 33 (Int32.toNatClampNeg l3))) else l4) else l4 : Int32) else 0) (zeU2 im 40 (Int32.toNatClampNeg s1) (vp_nar .boolean s2)) lm
theorem J_75_50_ok {B : zeB} (l2 : Int32) (l3 : Int32) (l4 : Int32) (s1 : Int32) (s2 : Int32)  (im : zI) (lm : zJ) : zL B 0 (J_75_50  l2 l3 l4 s1 s2 im lm) (zeRun 75 50 [some (.ref 32), some (.ref 26), some (.int l2), some (.int l3), some (.int l4)] [.int s2, .int s1, .ref 40] (zk B im lm)) := by
  unfold J_75_50
  refine zL_ck fun c1 => ?_
  refine zL_ck fun c2 => ?_
  refine zL_ifm (d_75_50 _ _ _ _ _ c1 c2) (fun h => ?_) (fun h => ?_)
  · repeat rw [if_pos h]
    refine zL_ck fun c3 => ?_
    refine zL_bdp (e := (if ((zeU2 im 40 (Int32.toNatClampNeg s1) (vp_nar .boolean s2)) 28 (Int32.toNatClampNeg l2)) = 2 then (if (if ((zeU2 im 40 (Int32.toNatClampNeg s1) (vp_nar .boolean s2)) 33 (Int32.toNatClampNeg l3)) < 500 then 500 else ((zeU2 im 40 (Int32.toNatClampNeg s1) (vp_nar .boolean s2)) 33 (Int32.toNatClampNeg l3))) < l4 then (if ((zeU2 im 40 (Int32.toNatClampNeg s1) (vp_nar .boolean s2)) 33 (Int32.toNatClampNeg l3)) < 500 then 500 else ((zeU2 im 40 (Int32.toNatClampNeg s1) (vp_nar .boolean s2)) 33 (Int32.toNatClampNeg l3))) else l4) else if ((zeU2 im 40 (Int32.toNatClampNeg s1) (vp_nar .boolean s2)) 28 (Int32.toNatClampNeg l2)) = 3 then (if (if ((zeU2 im 40 (Int32.toNatClampNeg s1) (vp_nar .boolean s2)) 33 (Int32.toNatClampNeg l3)) < 0 then 0 else ((zeU2 im 40 (Int32.toNatClampNeg s1) (vp_nar .boolean s2)) 33 (Int32.toNatClampNeg l3))) < l4 then (if ((zeU2 im 40 (Int32.toNatClampNeg s1) (vp_nar .boolean s2)) 33 (Int32.toNatClampNeg l3)) < 0 then 0 else ((zeU2 im 40 (Int32.toNatClampNeg s1) (vp_nar .boolean s2)) 33 (Int32.toNatClampNeg l3))) else l4) else l4 : Int32)) (d_75_69 _ _ _ _ c2 c3) (m_73_ok _ _ _ _ _) ?_
    exact J_75_86_ok   _ _ _ _ _ _ _
  · repeat rw [if_neg h]
    refine zL_eq (d_75_65 _ _ _ _) ?_
    refine zL_ckt ?_
    exact J_75_86_ok   _ _ _ _ _ _ _
def m_75 (l2 : Int32) (im : zI) (lm : zJ) : zR :=
    zCk (zeInb l2 60) <|
    if (im 28 (Int32.toNatClampNeg l2)) = 1 then
      zBd (m_72 (im 29 (Int32.toNatClampNeg l2)) im lm) fun v1 im1 lm1 =>
      J_75_50   l2 (im 27 (Int32.toNatClampNeg l2)) (im 30 (Int32.toNatClampNeg l2)) l2 (if v1 = (-10000005) then 0 else 1) im1 lm1
    else
      J_75_50   l2 (im 27 (Int32.toNatClampNeg l2)) (im 30 (Int32.toNatClampNeg l2)) l2 0 im lm
theorem m_75_ok {B : zeB} (l2 : Int32) (im : zI) (lm : zJ) : zL B 0 (m_75 l2 im lm) (zeRun 75 0 [some (.ref 32), some (.ref 26), some (.int l2), none, none] [] (zk B im lm)) := by
  unfold m_75
  refine zL_ck fun c1 => ?_
  refine zL_if (d_75_0 _ _ _ c1 c1 c1) (fun h => ?_) (fun h => ?_)
  · skip
    refine zL_bd (d_75_30 _ _ _ _ c1) (m_72_ok _ _ _) fun v1 im1 lm1 => ?_
    refine zL_ifm (d_75_40 _ _ _ _ _) (fun h => ?_) (fun h => ?_)
    · repeat rw [if_pos h]
      refine zL_eq (d_75_49 _ _ _ _) ?_
      exact J_75_50_ok   _ _ _ _ _ _ _
    · repeat rw [if_neg h]
      refine zL_eq (d_75_45 _ _ _ _) ?_
      exact J_75_50_ok   _ _ _ _ _ _ _
  · skip
    refine zL_eq (d_75_49 _ _ _ _) ?_
    exact J_75_50_ok   _ _ _ _ _ _ _
/-! X4_run -/
theorem d_76_0 {B : zeB} {im : Nat → Nat → Int32} {lm : Nat → Nat → Int64} (o2 : Option Value)  : zeRun 76 0 [some (.ref 32), some (.ref 26), o2] [] (zk B im lm) = zeRun 76 7 [some (.ref 32), some (.ref 26), some (.int 0)] [] (zk B (zeU2 im 32 0 0) lm) := ze_go (ok := true) rfl 5 rfl rfl
theorem d_76_7 {B : zeB} {im : Nat → Nat → Int32} {lm : Nat → Nat → Int64} (l2 : Int32)  : zeRun 76 7 [some (.ref 32), some (.ref 26), some (.int l2)] [] (zk B im lm) = if 6 ≤ l2 then zeRun 76 47 [some (.ref 32), some (.ref 26), some (.int l2)] [] (zk B im lm) else zeRun 76 13 [some (.ref 32), some (.ref 26), some (.int l2)] [] (zk B im lm) := ze_if (ok := true) rfl 3 rfl rfl
theorem d_76_47 {B : zeB} {im : Nat → Nat → Int32} {lm : Nat → Nat → Int64} (o2 : Option Value)  : zeRun 76 47 [some (.ref 32), some (.ref 26), o2] [] (zk B im lm) = zeRun 76 49 [some (.ref 32), some (.ref 26), some (.int 0)] [] (zk B im lm) := ze_go (ok := true) rfl 2 rfl rfl
theorem d_76_13 {B : zeB} {im : Nat → Nat → Int32} {lm : Nat → Nat → Int64} (l2 : Int32) (c0 : zeInb l2 6 = true) (c1 : zeInb l2 6 = true) (c2 : zeInb l2 6 = true) (c3 : zeInb l2 6 = true) : zeRun 76 13 [some (.ref 32), some (.ref 26), some (.int l2)] [] (zk B im lm) = zeRun 76 7 [some (.ref 32), some (.ref 26), some (.int (l2 + 1))] [] (zk B (zeU2 (zeU2 (zeU2 (zeU2 im 33 (Int32.toNatClampNeg l2) 0) 34 (Int32.toNatClampNeg l2) 0) 35 (Int32.toNatClampNeg l2) 0) 36 (Int32.toNatClampNeg l2) 0) lm) := ze_go (ok := (zeInb l2 6 && (zeInb l2 6 && (zeInb l2 6 && (zeInb l2 6 && true))))) rfl 22 rfl (zeA2 c3 (zeA2 c2 (zeA2 c1 (zeA2 c0 rfl))))
theorem d_76_49 {B : zeB} {im : Nat → Nat → Int32} {lm : Nat → Nat → Int64} (l2 : Int32)  : zeRun 76 49 [some (.ref 32), some (.ref 26), some (.int l2)] [] (zk B im lm) = if 25 ≤ l2 then zeRun 76 69 [some (.ref 32), some (.ref 26), some (.int l2)] [] (zk B im lm) else zeRun 76 55 [some (.ref 32), some (.ref 26), some (.int l2)] [] (zk B im lm) := ze_if (ok := true) rfl 3 rfl rfl
theorem d_76_69 {B : zeB} {im : Nat → Nat → Int32} {lm : Nat → Nat → Int64} (o2 : Option Value)  : zeRun 76 69 [some (.ref 32), some (.ref 26), o2] [] (zk B im lm) = zeRun 76 71 [some (.ref 32), some (.ref 26), some (.int 0)] [] (zk B im lm) := ze_go (ok := true) rfl 2 rfl rfl
theorem d_76_55 {B : zeB} {im : Nat → Nat → Int32} {lm : Nat → Nat → Int64} (l2 : Int32) (c0 : zeInb l2 25 = true) : zeRun 76 55 [some (.ref 32), some (.ref 26), some (.int l2)] [] (zk B im lm) = zeRun 76 49 [some (.ref 32), some (.ref 26), some (.int (l2 + 1))] [] (zk B (zeU2 im 37 (Int32.toNatClampNeg l2) (-10000005)) lm) := ze_go (ok := (zeInb l2 25 && true)) rfl 7 rfl (zeA2 c0 rfl)
theorem d_76_71 {B : zeB} {im : Nat → Nat → Int32} {lm : Nat → Nat → Int64} (l2 : Int32)  : zeRun 76 71 [some (.ref 32), some (.ref 26), some (.int l2)] [] (zk B im lm) = if (im 26 0) ≤ l2 then zeRun 76 91 [some (.ref 32), some (.ref 26), some (.int l2)] [] (zk B im lm) else zeRun 76 79 [some (.ref 32), some (.ref 26), some (.int l2)] [] (zk B im lm) := ze_if (ok := true) rfl 4 rfl rfl
theorem d_76_91 {B : zeB} {im : Nat → Nat → Int32} {lm : Nat → Nat → Int64} (o0 : Option Value) (o1 : Option Value) (o2 : Option Value)  : zeRun 76 91 [o0, o1, o2] [] (zk B im lm) = some (none, (zk B im lm)) := ze_ret (ok := true) rfl 1 rfl rfl
theorem d_76_79 {B : zeB} {im : Nat → Nat → Int32} {lm : Nat → Nat → Int64} (l2 : Int32)  : zeRun 76 79 [some (.ref 32), some (.ref 26), some (.int l2)] [] (zk B im lm) = zeBh 76 85 [some (.ref 32), some (.ref 26), some (.int l2)] [] (zeRun 75 0 [some (.ref 32), some (.ref 26), some (.int l2), none, none] [] (zk B im lm)) := ze_call (ok := true) rfl 4 rfl rfl rfl
theorem d_76_85 {B : zeB} {im : Nat → Nat → Int32} {lm : Nat → Nat → Int64} (l2 : Int32)  : zeRun 76 85 [some (.ref 32), some (.ref 26), some (.int l2)] [] (zk B im lm) = zeRun 76 71 [some (.ref 32), some (.ref 26), some (.int (l2 + 1))] [] (zk B im lm) := ze_go (ok := true) rfl 2 rfl rfl
def F_76_71  : Nat → Int32 → zI → zJ → zR
  | 0, _, _, _ => none
  | n + 1, l2, im, lm =>
    if (im 26 0) ≤ l2 then
      some (0, im, lm)
    else
      zBd (m_75 l2 im lm) fun _ im1 lm1 =>
      F_76_71  n (l2 + 1) im1 lm1
theorem F_76_71_ok {B : zeB} : ∀ (n : Nat) (l2 : Int32)  (im : zI) (lm : zJ), zL B 0 (F_76_71  n l2 im lm) (zeRun 76 71 [some (.ref 32), some (.ref 26), some (.int l2)] [] (zk B im lm)) := by
  intro n
  induction n with
  | zero => intros; exact zL_none
  | succ n ih =>
    intro l2 im lm
    unfold F_76_71
    refine zL_if (d_76_71 _) (fun h => ?_) (fun h => ?_)
    · skip
      exact zL_retv (d_76_91 _ _ _)
    · skip
      refine zL_bdv (d_76_79 _) (m_75_ok _ _ _) fun _ im1 lm1 => ?_
      refine zL_eq (d_76_85 _) ?_
      exact ih _ _ _
def F_76_49  : Nat → Int32 → zI → zJ → zR
  | 0, _, _, _ => none
  | n + 1, l2, im, lm =>
    if 25 ≤ l2 then
      F_76_71  2000 0 im lm
    else
      zCk (zeInb l2 25) <|
      F_76_49  n (l2 + 1) (zeU2 im 37 (Int32.toNatClampNeg l2) (-10000005)) lm
theorem F_76_49_ok {B : zeB} : ∀ (n : Nat) (l2 : Int32)  (im : zI) (lm : zJ), zL B 0 (F_76_49  n l2 im lm) (zeRun 76 49 [some (.ref 32), some (.ref 26), some (.int l2)] [] (zk B im lm)) := by
  intro n
  induction n with
  | zero => intros; exact zL_none
  | succ n ih =>
    intro l2 im lm
    unfold F_76_49
    refine zL_if (d_76_49 _) (fun h => ?_) (fun h => ?_)
    · skip
      refine zL_eq (d_76_69 _) ?_
      exact F_76_71_ok  _ _ _ _
    · skip
      refine zL_ck fun c1 => ?_
      refine zL_eq (d_76_55 _ c1) ?_
      exact ih _ _ _
def F_76_7  : Nat → Int32 → zI → zJ → zR
  | 0, _, _, _ => none
  | n + 1, l2, im, lm =>
    if 6 ≤ l2 then
      F_76_49  2000 0 im lm
    else
      zCk (zeInb l2 6) <|
      F_76_7  n (l2 + 1) (zeU2 (zeU2 (zeU2 (zeU2 im 33 (Int32.toNatClampNeg l2) 0) 34 (Int32.toNatClampNeg l2) 0) 35 (Int32.toNatClampNeg l2) 0) 36 (Int32.toNatClampNeg l2) 0) lm
theorem F_76_7_ok {B : zeB} : ∀ (n : Nat) (l2 : Int32)  (im : zI) (lm : zJ), zL B 0 (F_76_7  n l2 im lm) (zeRun 76 7 [some (.ref 32), some (.ref 26), some (.int l2)] [] (zk B im lm)) := by
  intro n
  induction n with
  | zero => intros; exact zL_none
  | succ n ih =>
    intro l2 im lm
    unfold F_76_7
    refine zL_if (d_76_7 _) (fun h => ?_) (fun h => ?_)
    · skip
      refine zL_eq (d_76_47 _) ?_
      exact F_76_49_ok  _ _ _ _
    · skip
      refine zL_ck fun c1 => ?_
      refine zL_eq (d_76_13 _ c1 c1 c1 c1) ?_
      exact ih _ _ _
def m_76  (im : zI) (lm : zJ) : zR :=
    F_76_7  2000 0 (zeU2 im 32 0 0) lm
theorem m_76_ok {B : zeB}  (im : zI) (lm : zJ) : zL B 0 (m_76  im lm) (zeRun 76 0 [some (.ref 32), some (.ref 26), none] [] (zk B im lm)) := by
  unfold m_76
  refine zL_eq (d_76_0 _) ?_
  exact F_76_7_ok  _ _ _ _
/-! X7_replayedScore -/
theorem d_77_0 {B : zeB} {im : Nat → Nat → Int32} {lm : Nat → Nat → Int64} (l1 : Int32)  : zeRun 77 0 [some (.ref 16), some (.int l1)] [] (zk B im lm) = zeBh 77 14 [some (.ref 16), some (.int l1)] [] (zeRun 76 0 [some (.ref 32), some (.ref 26), none] [] (zk B im lm)) := ze_call (ok := true) rfl 6 rfl rfl rfl
theorem d_77_14 {B : zeB} {im : Nat → Nat → Int32} {lm : Nat → Nat → Int64} (l1 : Int32) (c0 : zeInb l1 6 = true) : zeRun 77 14 [some (.ref 16), some (.int l1)] [] (zk B im lm) = some (some (.int (im 33 (Int32.toNatClampNeg l1))), (zk B im lm)) := ze_ret (ok := (zeInb l1 6 && true)) rfl 6 rfl (zeA2 c0 rfl)
def m_77 (l1 : Int32) (im : zI) (lm : zJ) : zR :=
    zBd (m_76  im lm) fun _ im1 lm1 =>
    zCk (zeInb l1 6) <|
    some ((im1 33 (Int32.toNatClampNeg l1)), im1, lm1)
theorem m_77_ok {B : zeB} (l1 : Int32) (im : zI) (lm : zJ) : zL B 1 (m_77 l1 im lm) (zeRun 77 0 [some (.ref 16), some (.int l1)] [] (zk B im lm)) := by
  unfold m_77
  refine zL_bdv (d_77_0 _) (m_76_ok _ _) fun _ im1 lm1 => ?_
  refine zL_ck fun c1 => ?_
  exact zL_ret (d_77_14 _ c1)
/-! X7_answerOpenClue -/
theorem d_78_0 {B : zeB} {im : Nat → Nat → Int32} {lm : Nat → Nat → Int64} (l1 : Int32) (o2 : Option Value) (o3 : Option Value) (o4 : Option Value)  : zeRun 78 0 [some (.ref 16), some (.int l1), o2, o3, o4] [] (zk B im lm) = zeBh 78 5 [some (.ref 16), some (.int l1), o2, o3, o4] [] (zeRun 69 0 [some (.ref 16), some (.int 0), none] [] (zk B im lm)) := ze_call (ok := true) rfl 3 rfl rfl rfl
theorem d_78_5 {B : zeB} {im : Nat → Nat → Int32} {lm : Nat → Nat → Int64} (l1 : Int32) (o2 : Option Value) (o3 : Option Value) (o4 : Option Value) (s0 : Int32)  : zeRun 78 5 [some (.ref 16), some (.int l1), o2, o3, o4] [.int s0] (zk B im lm) = if s0 = (-10000005) then zeRun 78 12 [some (.ref 16), some (.int l1), some (.int s0), o3, o4] [] (zk B im lm) else zeRun 78 18 [some (.ref 16), some (.int l1), some (.int s0), o3, o4] [] (zk B im lm) := ze_if (ok := true) rfl 4 rfl rfl
theorem d_78_12 {B : zeB} {im : Nat → Nat → Int32} {lm : Nat → Nat → Int64} (o1 : Option Value) (o2 : Option Value) (o3 : Option Value) (o4 : Option Value)  : zeRun 78 12 [some (.ref 16), o1, o2, o3, o4] [] (zk B im lm) = zeBh 78 17 [some (.ref 16), o1, o2, o3, o4] [] (zeRun 17 0 [some (.ref 16), some (.int 4)] [] (zk B im lm)) := ze_call (ok := true) rfl 3 rfl rfl rfl
theorem d_78_17 {B : zeB} {im : Nat → Nat → Int32} {lm : Nat → Nat → Int64} (o0 : Option Value) (o1 : Option Value) (o2 : Option Value) (o3 : Option Value) (o4 : Option Value) (s0 : Int32)  : zeRun 78 17 [o0, o1, o2, o3, o4] [.int s0] (zk B im lm) = some (some (.int s0), (zk B im lm)) := ze_ret (ok := true) rfl 1 rfl rfl
theorem d_78_18 {B : zeB} {im : Nat → Nat → Int32} {lm : Nat → Nat → Int64} (l1 : Int32) (l2 : Int32) (o3 : Option Value) (o4 : Option Value)  : zeRun 78 18 [some (.ref 16), some (.int l1), some (.int l2), o3, o4] [] (zk B im lm) = zeBh 78 28 [some (.ref 16), some (.int l1), some (.int l2), o3, o4] [] (zeRun 70 0 [some (.ref 26)] [] (zk B im lm)) := ze_call (ok := true) rfl 4 rfl rfl rfl
theorem d_78_28 {B : zeB} {im : Nat → Nat → Int32} {lm : Nat → Nat → Int64} (l1 : Int32) (l2 : Int32) (o3 : Option Value) (o4 : Option Value) (s0 : Int32)  : zeRun 78 28 [some (.ref 16), some (.int l1), some (.int l2), o3, o4] [.int s0] (zk B im lm) = if s0 = 0 then zeRun 78 38 [some (.ref 16), some (.int l1), some (.int l2), o3, o4] [] (zk B im lm) else zeRun 78 31 [some (.ref 16), some (.int l1), some (.int l2), o3, o4] [] (zk B im lm) := ze_if (ok := true) rfl 1 rfl rfl
theorem d_78_38 {B : zeB} {im : Nat → Nat → Int32} {lm : Nat → Nat → Int64} (l1 : Int32) (l2 : Int32) (o3 : Option Value) (o4 : Option Value)  : zeRun 78 38 [some (.ref 16), some (.int l1), some (.int l2), o3, o4] [] (zk B im lm) = if (im 19 4) = 0 then zeRun 78 62 [some (.ref 16), some (.int l1), some (.int l2), some (.int (im 19 0)), o4] [] (zk B im lm) else zeRun 78 91 [some (.ref 16), some (.int l1), some (.int l2), some (.int (im 19 0)), o4] [] (zk B im lm) := ze_if (ok := true) rfl 10 rfl rfl
theorem d_78_62 {B : zeB} {im : Nat → Nat → Int32} {lm : Nat → Nat → Int64} (l1 : Int32) (l2 : Int32) (l3 : Int32) (o4 : Option Value)  : zeRun 78 62 [some (.ref 16), some (.int l1), some (.int l2), some (.int l3), o4] [] (zk B im lm) = zeBh 78 76 [some (.ref 16), some (.int l1), some (.int l2), some (.int l3), o4] [.int l3, .int 0, .int l2, .ref 26] (zeRun 41 0 [some (.int l3)] [] (zk B im lm)) := ze_call (ok := true) rfl 8 rfl rfl rfl
theorem d_78_76 {B : zeB} {im : Nat → Nat → Int32} {lm : Nat → Nat → Int64} (l1 : Int32) (l2 : Int32) (o3 : Option Value) (o4 : Option Value) (s1 : Int32) (s2 : Int32) (s3 : Int32) (s4 : Int32)  : zeRun 78 76 [some (.ref 16), some (.int l1), some (.int l2), o3, o4] [.int s4, .int s3, .int s2, .int s1, .ref 26] (zk B im lm) = if l1 = 0 then zeRun 78 84 [some (.ref 16), some (.int l1), some (.int l2), o3, o4] [.int s4, .int s3, .int s2, .int s1, .ref 26] (zk B im lm) else zeRun 78 80 [some (.ref 16), some (.int l1), some (.int l2), o3, o4] [.int s4, .int s3, .int s2, .int s1, .ref 26] (zk B im lm) := ze_if (ok := true) rfl 2 rfl rfl
theorem d_78_84 {B : zeB} {im : Nat → Nat → Int32} {lm : Nat → Nat → Int64} (l1 : Int32) (l2 : Int32) (o3 : Option Value) (o4 : Option Value) (s1 : Int32) (s2 : Int32) (s3 : Int32) (s4 : Int32)  : zeRun 78 84 [some (.ref 16), some (.int l1), some (.int l2), o3, o4] [.int s4, .int s3, .int s2, .int s1, .ref 26] (zk B im lm) = zeRun 78 85 [some (.ref 16), some (.int l1), some (.int l2), o3, o4] [.int 0, .int s4, .int s3, .int s2, .int s1, .ref 26] (zk B im lm) := ze_go (ok := true) rfl 1 rfl rfl
theorem d_78_80 {B : zeB} {im : Nat → Nat → Int32} {lm : Nat → Nat → Int64} (l1 : Int32) (l2 : Int32) (o3 : Option Value) (o4 : Option Value) (s1 : Int32) (s2 : Int32) (s3 : Int32) (s4 : Int32)  : zeRun 78 80 [some (.ref 16), some (.int l1), some (.int l2), o3, o4] [.int s4, .int s3, .int s2, .int s1, .ref 26] (zk B im lm) = zeRun 78 85 [some (.ref 16), some (.int l1), some (.int l2), o3, o4] [.int 1, .int s4, .int s3, .int s2, .int s1, .ref 26] (zk B im lm) := ze_go (ok := true) rfl 2 rfl rfl
theorem d_78_91 {B : zeB} {im : Nat → Nat → Int32} {lm : Nat → Nat → Int64} (l1 : Int32) (l2 : Int32) (l3 : Int32) (o4 : Option Value)  : zeRun 78 91 [some (.ref 16), some (.int l1), some (.int l2), some (.int l3), o4] [] (zk B im lm) = zeBh 78 95 [some (.ref 16), some (.int l1), some (.int l2), some (.int l3), o4] [] (zeRun 41 0 [some (.int l3)] [] (zk B im lm)) := ze_call (ok := true) rfl 2 rfl rfl rfl
theorem d_78_95 {B : zeB} {im : Nat → Nat → Int32} {lm : Nat → Nat → Int64} (l1 : Int32) (l2 : Int32) (l3 : Int32) (o4 : Option Value) (s0 : Int32)  : zeRun 78 95 [some (.ref 16), some (.int l1), some (.int l2), some (.int l3), o4] [.int s0] (zk B im lm) = if l1 = 0 then zeRun 78 130 [some (.ref 16), some (.int l1), some (.int l2), some (.int l3), some (.int ((s0 * (im 18 2)) / 100))] [.int ((s0 * (im 18 2)) / 100), .int l3, .int 1, .int l2, .ref 26] (zk B im lm) else zeRun 78 126 [some (.ref 16), some (.int l1), some (.int l2), some (.int l3), some (.int ((s0 * (im 18 2)) / 100))] [.int ((s0 * (im 18 2)) / 100), .int l3, .int 1, .int l2, .ref 26] (zk B im lm) := ze_if (ok := true) rfl 18 rfl rfl
theorem d_78_130 {B : zeB} {im : Nat → Nat → Int32} {lm : Nat → Nat → Int64} (l1 : Int32) (l2 : Int32) (o3 : Option Value) (o4 : Option Value) (s1 : Int32) (s2 : Int32) (s3 : Int32) (s4 : Int32)  : zeRun 78 130 [some (.ref 16), some (.int l1), some (.int l2), o3, o4] [.int s4, .int s3, .int s2, .int s1, .ref 26] (zk B im lm) = zeRun 78 131 [some (.ref 16), some (.int l1), some (.int l2), o3, o4] [.int 0, .int s4, .int s3, .int s2, .int s1, .ref 26] (zk B im lm) := ze_go (ok := true) rfl 1 rfl rfl
theorem d_78_126 {B : zeB} {im : Nat → Nat → Int32} {lm : Nat → Nat → Int64} (l1 : Int32) (l2 : Int32) (o3 : Option Value) (o4 : Option Value) (s1 : Int32) (s2 : Int32) (s3 : Int32) (s4 : Int32)  : zeRun 78 126 [some (.ref 16), some (.int l1), some (.int l2), o3, o4] [.int s4, .int s3, .int s2, .int s1, .ref 26] (zk B im lm) = zeRun 78 131 [some (.ref 16), some (.int l1), some (.int l2), o3, o4] [.int 1, .int s4, .int s3, .int s2, .int s1, .ref 26] (zk B im lm) := ze_go (ok := true) rfl 2 rfl rfl
theorem d_78_31 {B : zeB} {im : Nat → Nat → Int32} {lm : Nat → Nat → Int64} (o1 : Option Value) (o2 : Option Value) (o3 : Option Value) (o4 : Option Value)  : zeRun 78 31 [some (.ref 16), o1, o2, o3, o4] [] (zk B im lm) = zeBh 78 37 [some (.ref 16), o1, o2, o3, o4] [] (zeRun 17 0 [some (.ref 16), some (.int 7)] [] (zk B im lm)) := ze_call (ok := true) rfl 3 rfl rfl rfl
theorem d_78_37 {B : zeB} {im : Nat → Nat → Int32} {lm : Nat → Nat → Int64} (o0 : Option Value) (o1 : Option Value) (o2 : Option Value) (o3 : Option Value) (o4 : Option Value) (s0 : Int32)  : zeRun 78 37 [o0, o1, o2, o3, o4] [.int s0] (zk B im lm) = some (some (.int s0), (zk B im lm)) := ze_ret (ok := true) rfl 1 rfl rfl
theorem d_78_131 {B : zeB} {im : Nat → Nat → Int32} {lm : Nat → Nat → Int64} (l1 : Int32) (l2 : Int32) (o3 : Option Value) (o4 : Option Value) (s1 : Int32) (s2 : Int32) (s3 : Int32) (s4 : Int32) (s5 : Int32)  : zeRun 78 131 [some (.ref 16), some (.int l1), some (.int l2), o3, o4] [.int s5, .int s4, .int s3, .int s2, .int s1, .ref 26] (zk B im lm) = zeBh 78 134 [some (.ref 16), some (.int l1), some (.int l2), o3, o4] [] (zeRun 71 0 [some (.ref 26), some (.int s1), some (.int s2), some (.int s3), some (.int s4), some (.int s5)] [] (zk B im lm)) := ze_call (ok := true) rfl 1 rfl rfl rfl
theorem d_78_134 {B : zeB} {im : Nat → Nat → Int32} {lm : Nat → Nat → Int64} (l1 : Int32) (l2 : Int32) (o3 : Option Value) (o4 : Option Value)  : zeRun 78 134 [some (.ref 16), some (.int l1), some (.int l2), o3, o4] [] (zk B im lm) = if l1 = 0 then zeRun 78 164 [some (.ref 16), some (.int l1), some (.int l2), o3, o4] [] (zk B (zeU2 im 19 4 ((im 19 4) ||| (1 <<< (l2 &&& 31)))) lm) else zeRun 78 156 [some (.ref 16), some (.int l1), some (.int l2), o3, o4] [] (zk B (zeU2 im 19 4 ((im 19 4) ||| (1 <<< (l2 &&& 31)))) lm) := ze_if (ok := true) rfl 12 rfl rfl
theorem d_78_156 {B : zeB} {im : Nat → Nat → Int32} {lm : Nat → Nat → Int64} (o1 : Option Value) (l2 : Int32) (o3 : Option Value) (o4 : Option Value)  : zeRun 78 156 [some (.ref 16), o1, some (.int l2), o3, o4] [] (zk B im lm) = zeRun 78 164 [some (.ref 16), o1, some (.int l2), o3, o4] [] (zk B (zeU2 im 17 0 0) lm) := ze_go (ok := true) rfl 4 rfl rfl
theorem d_78_164 {B : zeB} {im : Nat → Nat → Int32} {lm : Nat → Nat → Int64} (o1 : Option Value) (l2 : Int32) (o3 : Option Value) (o4 : Option Value)  : zeRun 78 164 [some (.ref 16), o1, some (.int l2), o3, o4] [] (zk B im lm) = zeBh 78 169 [some (.ref 16), o1, some (.int l2), o3, o4] [] (zeRun 77 0 [some (.ref 16), some (.int l2)] [] (zk B im lm)) := ze_call (ok := true) rfl 3 rfl rfl rfl
theorem d_78_169 {B : zeB} {im : Nat → Nat → Int32} {lm : Nat → Nat → Int64} (o0 : Option Value) (o1 : Option Value) (o2 : Option Value) (o3 : Option Value) (o4 : Option Value) (s0 : Int32)  : zeRun 78 169 [o0, o1, o2, o3, o4] [.int s0] (zk B im lm) = some (some (.int s0), (zk B im lm)) := ze_ret (ok := true) rfl 1 rfl rfl
theorem d_78_85 {B : zeB} {im : Nat → Nat → Int32} {lm : Nat → Nat → Int64} (l1 : Int32) (l2 : Int32) (o3 : Option Value) (o4 : Option Value) (s1 : Int32) (s2 : Int32) (s3 : Int32) (s4 : Int32) (s5 : Int32)  : zeRun 78 85 [some (.ref 16), some (.int l1), some (.int l2), o3, o4] [.int s5, .int s4, .int s3, .int s2, .int s1, .ref 26] (zk B im lm) = zeBh 78 88 [some (.ref 16), some (.int l1), some (.int l2), o3, o4] [] (zeRun 71 0 [some (.ref 26), some (.int s1), some (.int s2), some (.int s3), some (.int s4), some (.int s5)] [] (zk B im lm)) := ze_call (ok := true) rfl 1 rfl rfl rfl
theorem d_78_88 {B : zeB} {im : Nat → Nat → Int32} {lm : Nat → Nat → Int64} (l1 : Int32) (l2 : Int32) (o3 : Option Value) (o4 : Option Value)  : zeRun 78 88 [some (.ref 16), some (.int l1), some (.int l2), o3, o4] [] (zk B im lm) = zeRun 78 134 [some (.ref 16), some (.int l1), some (.int l2), o3, o4] [] (zk B im lm) := ze_go (ok := true) rfl 1 rfl rfl
def J_78_164  (l2 : Int32) (im : zI) (lm : zJ) : zR :=
    zBd (m_77 l2 im lm) fun v1 im1 lm1 =>
    some (v1, im1, lm1)
theorem J_78_164_ok {B : zeB} (l2 : Int32) (o1 : Option Value) (o3 : Option Value) (o4 : Option Value) (im : zI) (lm : zJ) : zL B 1 (J_78_164  l2 im lm) (zeRun 78 164 [some (.ref 16), o1, some (.int l2), o3, o4] [] (zk B im lm)) := by
  unfold J_78_164
  refine zL_bd (d_78_164 _ _ _ _) (m_77_ok _ _ _) fun v1 im1 lm1 => ?_
  exact zL_ret (d_78_169 _ _ _ _ _ _)
def J_78_134  (l1 : Int32) (l2 : Int32) (im : zI) (lm : zJ) : zR :=
    J_78_164   l2 (if l1 = 0 then (zeU2 im 19 4 ((im 19 4) ||| (1 <<< (l2 &&& 31)))) else (zeU2 (zeU2 im 19 4 ((im 19 4) ||| (1 <<< (l2 &&& 31)))) 17 0 0)) lm
theorem J_78_134_ok {B : zeB} (l1 : Int32) (l2 : Int32) (o3 : Option Value) (o4 : Option Value) (im : zI) (lm : zJ) : zL B 1 (J_78_134  l1 l2 im lm) (zeRun 78 134 [some (.ref 16), some (.int l1), some (.int l2), o3, o4] [] (zk B im lm)) := by
  unfold J_78_134
  refine zL_ifm (d_78_134 _ _ _ _) (fun h => ?_) (fun h => ?_)
  · repeat rw [if_pos h]
    exact J_78_164_ok   _ _ _ _ _ _
  · repeat rw [if_neg h]
    refine zL_eq (d_78_156 _ _ _ _) ?_
    exact J_78_164_ok   _ _ _ _ _ _
def J_78_131  (l1 : Int32) (l2 : Int32) (s1 : Int32) (s2 : Int32) (s3 : Int32) (s4 : Int32) (s5 : Int32) (im : zI) (lm : zJ) : zR :=
    zBd (m_71 s1 s2 s3 s4 s5 im lm) fun _ im1 lm1 =>
    J_78_134   l1 l2 im1 lm1
theorem J_78_131_ok {B : zeB} (l1 : Int32) (l2 : Int32) (s1 : Int32) (s2 : Int32) (s3 : Int32) (s4 : Int32) (s5 : Int32) (o3 : Option Value) (o4 : Option Value) (im : zI) (lm : zJ) : zL B 1 (J_78_131  l1 l2 s1 s2 s3 s4 s5 im lm) (zeRun 78 131 [some (.ref 16), some (.int l1), some (.int l2), o3, o4] [.int s5, .int s4, .int s3, .int s2, .int s1, .ref 26] (zk B im lm)) := by
  unfold J_78_131
  refine zL_bdv (d_78_131 _ _ _ _ _ _ _ _ _) (m_71_ok _ _ _ _ _ _ _) fun _ im1 lm1 => ?_
  exact J_78_134_ok   _ _ _ _ _ _
def J_78_85  (l1 : Int32) (l2 : Int32) (s1 : Int32) (s2 : Int32) (s3 : Int32) (s4 : Int32) (s5 : Int32) (im : zI) (lm : zJ) : zR :=
    zBd (m_71 s1 s2 s3 s4 s5 im lm) fun _ im1 lm1 =>
    J_78_134   l1 l2 im1 lm1
theorem J_78_85_ok {B : zeB} (l1 : Int32) (l2 : Int32) (s1 : Int32) (s2 : Int32) (s3 : Int32) (s4 : Int32) (s5 : Int32) (o3 : Option Value) (o4 : Option Value) (im : zI) (lm : zJ) : zL B 1 (J_78_85  l1 l2 s1 s2 s3 s4 s5 im lm) (zeRun 78 85 [some (.ref 16), some (.int l1), some (.int l2), o3, o4] [.int s5, .int s4, .int s3, .int s2, .int s1, .ref 26] (zk B im lm)) := by
  unfold J_78_85
  refine zL_bdv (d_78_85 _ _ _ _ _ _ _ _ _) (m_71_ok _ _ _ _ _ _ _) fun _ im1 lm1 => ?_
  refine zL_eq (d_78_88 _ _ _ _) ?_
  exact J_78_134_ok   _ _ _ _ _ _
def m_78 (l1 : Int32) (im : zI) (lm : zJ) : zR :=
    zBd (m_69 0 im lm) fun v1 im1 lm1 =>
    if v1 = (-10000005) then
      zBd (m_17 4 im1 lm1) fun v2 im2 lm2 =>
      some (v2, im2, lm2)
    else
      if (if (im1 26 0) < 60 then 0 else 1 : Int32) = 0 then
        if (im1 19 4) = 0 then
          J_78_85   l1 v1 v1 0 (im1 19 0) ((100 * (((im1 19 0) / 5) + 1)) : Int32) (if l1 = 0 then 0 else 1) im1 lm1
        else
          J_78_131   l1 v1 v1 1 (im1 19 0) ((((100 * (((im1 19 0) / 5) + 1)) : Int32) * (im1 18 2)) / 100) (if l1 = 0 then 0 else 1) im1 lm1
      else
        zBd (m_17 7 im1 lm1) fun v6 im6 lm6 =>
        some (v6, im6, lm6)
theorem m_78_ok {B : zeB} (l1 : Int32) (im : zI) (lm : zJ) : zL B 1 (m_78 l1 im lm) (zeRun 78 0 [some (.ref 16), some (.int l1), none, none, none] [] (zk B im lm)) := by
  unfold m_78
  refine zL_bd (d_78_0 _ _ _ _) (m_69_ok _ _ _) fun v1 im1 lm1 => ?_
  refine zL_if (d_78_5 _ _ _ _ _) (fun h => ?_) (fun h => ?_)
  · skip
    refine zL_bd (d_78_12 _ _ _ _) (m_17_ok _ _ _) fun v2 im2 lm2 => ?_
    exact zL_ret (d_78_17 _ _ _ _ _ _)
  · skip
    refine zL_bdp (e := (if (im1 26 0) < 60 then 0 else 1 : Int32)) (d_78_18 _ _ _ _) (m_70_ok _ _) ?_
    refine zL_if (d_78_28 _ _ _ _ _) (fun h => ?_) (fun h => ?_)
    · skip
      refine zL_if (d_78_38 _ _ _ _) (fun h => ?_) (fun h => ?_)
      · skip
        refine zL_bdp (e := ((100 * (((im1 19 0) / 5) + 1)) : Int32)) (d_78_62 _ _ _ _) (m_41_ok _ _ _) ?_
        refine zL_ifm (d_78_76 _ _ _ _ _ _ _ _) (fun h => ?_) (fun h => ?_)
        · repeat rw [if_pos h]
          refine zL_eq (d_78_84 _ _ _ _ _ _ _ _) ?_
          exact J_78_85_ok   _ _ _ _ _ _ _ _ _ _ _
        · repeat rw [if_neg h]
          refine zL_eq (d_78_80 _ _ _ _ _ _ _ _) ?_
          exact J_78_85_ok   _ _ _ _ _ _ _ _ _ _ _
      · skip
        refine zL_bdp (e := ((100 * (((im1 19 0) / 5) + 1)) : Int32)) (d_78_91 _ _ _ _) (m_41_ok _ _ _) ?_
        refine zL_ifm (d_78_95 _ _ _ _ _) (fun h => ?_) (fun h => ?_)
        · repeat rw [if_pos h]
          refine zL_eq (d_78_130 _ _ _ _ _ _ _ _) ?_
          exact J_78_131_ok   _ _ _ _ _ _ _ _ _ _ _
        · repeat rw [if_neg h]
          refine zL_eq (d_78_126 _ _ _ _ _ _ _ _) ?_
          exact J_78_131_ok   _ _ _ _ _ _ _ _ _ _ _
    · skip
      refine zL_bd (d_78_31 _ _ _ _) (m_17_ok _ _ _) fun v6 im6 lm6 => ?_
      exact zL_ret (d_78_37 _ _ _ _ _ _)
/-! X7_answerWagerClue -/
theorem d_79_0 {B : zeB} {im : Nat → Nat → Int32} {lm : Nat → Nat → Int64} (l1 : Int32) (o2 : Option Value)  : zeRun 79 0 [some (.ref 16), some (.int l1), o2] [] (zk B im lm) = zeBh 79 10 [some (.ref 16), some (.int l1), o2] [] (zeRun 70 0 [some (.ref 26)] [] (zk B im lm)) := ze_call (ok := true) rfl 4 rfl rfl rfl
theorem d_79_10 {B : zeB} {im : Nat → Nat → Int32} {lm : Nat → Nat → Int64} (l1 : Int32) (o2 : Option Value) (s0 : Int32)  : zeRun 79 10 [some (.ref 16), some (.int l1), o2] [.int s0] (zk B im lm) = if s0 = 0 then zeRun 79 20 [some (.ref 16), some (.int l1), o2] [] (zk B im lm) else zeRun 79 13 [some (.ref 16), some (.int l1), o2] [] (zk B im lm) := ze_if (ok := true) rfl 1 rfl rfl
theorem d_79_20 {B : zeB} {im : Nat → Nat → Int32} {lm : Nat → Nat → Int64} (l1 : Int32) (o2 : Option Value)  : zeRun 79 20 [some (.ref 16), some (.int l1), o2] [] (zk B im lm) = if l1 = 0 then zeRun 79 65 [some (.ref 16), some (.int l1), some (.int (im 32 0))] [.int (im 19 3), .int (im 19 0), .int 2, .int (im 32 0), .ref 26] (zk B im lm) else zeRun 79 61 [some (.ref 16), some (.int l1), some (.int (im 32 0))] [.int (im 19 3), .int (im 19 0), .int 2, .int (im 32 0), .ref 26] (zk B im lm) := ze_if (ok := true) rfl 19 rfl rfl
theorem d_79_65 {B : zeB} {im : Nat → Nat → Int32} {lm : Nat → Nat → Int64} (o1 : Option Value) (l2 : Int32) (s1 : Int32) (s2 : Int32) (s3 : Int32) (s4 : Int32)  : zeRun 79 65 [some (.ref 16), o1, some (.int l2)] [.int s4, .int s3, .int s2, .int s1, .ref 26] (zk B im lm) = zeRun 79 66 [some (.ref 16), o1, some (.int l2)] [.int 0, .int s4, .int s3, .int s2, .int s1, .ref 26] (zk B im lm) := ze_go (ok := true) rfl 1 rfl rfl
theorem d_79_61 {B : zeB} {im : Nat → Nat → Int32} {lm : Nat → Nat → Int64} (o1 : Option Value) (l2 : Int32) (s1 : Int32) (s2 : Int32) (s3 : Int32) (s4 : Int32)  : zeRun 79 61 [some (.ref 16), o1, some (.int l2)] [.int s4, .int s3, .int s2, .int s1, .ref 26] (zk B im lm) = zeRun 79 66 [some (.ref 16), o1, some (.int l2)] [.int 1, .int s4, .int s3, .int s2, .int s1, .ref 26] (zk B im lm) := ze_go (ok := true) rfl 2 rfl rfl
theorem d_79_13 {B : zeB} {im : Nat → Nat → Int32} {lm : Nat → Nat → Int64} (o1 : Option Value) (o2 : Option Value)  : zeRun 79 13 [some (.ref 16), o1, o2] [] (zk B im lm) = zeBh 79 19 [some (.ref 16), o1, o2] [] (zeRun 17 0 [some (.ref 16), some (.int 7)] [] (zk B im lm)) := ze_call (ok := true) rfl 3 rfl rfl rfl
theorem d_79_19 {B : zeB} {im : Nat → Nat → Int32} {lm : Nat → Nat → Int64} (o0 : Option Value) (o1 : Option Value) (o2 : Option Value) (s0 : Int32)  : zeRun 79 19 [o0, o1, o2] [.int s0] (zk B im lm) = some (some (.int s0), (zk B im lm)) := ze_ret (ok := true) rfl 1 rfl rfl
theorem d_79_66 {B : zeB} {im : Nat → Nat → Int32} {lm : Nat → Nat → Int64} (o1 : Option Value) (l2 : Int32) (s1 : Int32) (s2 : Int32) (s3 : Int32) (s4 : Int32) (s5 : Int32)  : zeRun 79 66 [some (.ref 16), o1, some (.int l2)] [.int s5, .int s4, .int s3, .int s2, .int s1, .ref 26] (zk B im lm) = zeBh 79 69 [some (.ref 16), o1, some (.int l2)] [] (zeRun 71 0 [some (.ref 26), some (.int s1), some (.int s2), some (.int s3), some (.int s4), some (.int s5)] [] (zk B im lm)) := ze_call (ok := true) rfl 1 rfl rfl rfl
theorem d_79_69 {B : zeB} {im : Nat → Nat → Int32} {lm : Nat → Nat → Int64} (o1 : Option Value) (l2 : Int32)  : zeRun 79 69 [some (.ref 16), o1, some (.int l2)] [] (zk B im lm) = zeBh 79 82 [some (.ref 16), o1, some (.int l2)] [] (zeRun 77 0 [some (.ref 16), some (.int l2)] [] (zk B (zeU2 im 17 0 0) lm)) := ze_call (ok := true) rfl 7 rfl rfl rfl
theorem d_79_82 {B : zeB} {im : Nat → Nat → Int32} {lm : Nat → Nat → Int64} (o0 : Option Value) (o1 : Option Value) (o2 : Option Value) (s0 : Int32)  : zeRun 79 82 [o0, o1, o2] [.int s0] (zk B im lm) = some (some (.int s0), (zk B im lm)) := ze_ret (ok := true) rfl 1 rfl rfl
def J_79_66  (l2 : Int32) (s1 : Int32) (s2 : Int32) (s3 : Int32) (s4 : Int32) (s5 : Int32) (im : zI) (lm : zJ) : zR :=
    zBd (m_71 s1 s2 s3 s4 s5 im lm) fun _ im1 lm1 =>
    zBd (m_77 l2 (zeU2 im1 17 0 0) lm1) fun v2 im2 lm2 =>
    some (v2, im2, lm2)
theorem J_79_66_ok {B : zeB} (l2 : Int32) (s1 : Int32) (s2 : Int32) (s3 : Int32) (s4 : Int32) (s5 : Int32) (o1 : Option Value) (im : zI) (lm : zJ) : zL B 1 (J_79_66  l2 s1 s2 s3 s4 s5 im lm) (zeRun 79 66 [some (.ref 16), o1, some (.int l2)] [.int s5, .int s4, .int s3, .int s2, .int s1, .ref 26] (zk B im lm)) := by
  unfold J_79_66
  refine zL_bdv (d_79_66 _ _ _ _ _ _ _) (m_71_ok _ _ _ _ _ _ _) fun _ im1 lm1 => ?_
  refine zL_bd (d_79_69 _ _) (m_77_ok _ _ _) fun v2 im2 lm2 => ?_
  exact zL_ret (d_79_82 _ _ _ _)
def m_79 (l1 : Int32) (im : zI) (lm : zJ) : zR :=
    if (if (im 26 0) < 60 then 0 else 1 : Int32) = 0 then
      J_79_66   (im 32 0) (im 32 0) 2 (im 19 0) (im 19 3) (if l1 = 0 then 0 else 1) im lm
    else
      zBd (m_17 7 im lm) fun v2 im2 lm2 =>
      some (v2, im2, lm2)
theorem m_79_ok {B : zeB} (l1 : Int32) (im : zI) (lm : zJ) : zL B 1 (m_79 l1 im lm) (zeRun 79 0 [some (.ref 16), some (.int l1), none] [] (zk B im lm)) := by
  unfold m_79
  refine zL_bdp (e := (if (im 26 0) < 60 then 0 else 1 : Int32)) (d_79_0 _ _) (m_70_ok _ _) ?_
  refine zL_if (d_79_10 _ _ _) (fun h => ?_) (fun h => ?_)
  · skip
    refine zL_ifm (d_79_20 _ _) (fun h => ?_) (fun h => ?_)
    · repeat rw [if_pos h]
      refine zL_eq (d_79_65 _ _ _ _ _ _) ?_
      exact J_79_66_ok   _ _ _ _ _ _ _ _ _
    · repeat rw [if_neg h]
      refine zL_eq (d_79_61 _ _ _ _ _ _) ?_
      exact J_79_66_ok   _ _ _ _ _ _ _ _ _
  · skip
    refine zL_bd (d_79_13 _ _) (m_17_ok _ _ _) fun v2 im2 lm2 => ?_
    exact zL_ret (d_79_19 _ _ _ _)
/-! X0_isEarlier -/
theorem d_80_0 {B : zeB} {im : Nat → Nat → Int32} {lm : Nat → Nat → Int64} (l1 : Int32) (l2 : Int32) (c0 : zeInb l1 6 = true) (c1 : zeInb l2 6 = true) : zeRun 80 0 [some (.ref 23), some (.int l1), some (.int l2)] [] (zk B im lm) = if (im 24 (Int32.toNatClampNeg l1)) = (im 24 (Int32.toNatClampNeg l2)) then zeRun 80 36 [some (.ref 23), some (.int l1), some (.int l2)] [] (zk B im lm) else zeRun 80 15 [some (.ref 23), some (.int l1), some (.int l2)] [] (zk B im lm) := ze_if (ok := (zeInb l2 6 && (zeInb l1 6 && true))) rfl 9 rfl (zeA2 c1 (zeA2 c0 rfl))
theorem d_80_36 {B : zeB} {im : Nat → Nat → Int32} {lm : Nat → Nat → Int64} (o0 : Option Value) (l1 : Int32) (l2 : Int32)  : zeRun 80 36 [o0, some (.int l1), some (.int l2)] [] (zk B im lm) = if l2 ≤ l1 then zeRun 80 45 [o0, some (.int l1), some (.int l2)] [] (zk B im lm) else zeRun 80 41 [o0, some (.int l1), some (.int l2)] [] (zk B im lm) := ze_if (ok := true) rfl 3 rfl rfl
theorem d_80_45 {B : zeB} {im : Nat → Nat → Int32} {lm : Nat → Nat → Int64} (o0 : Option Value) (o1 : Option Value) (o2 : Option Value)  : zeRun 80 45 [o0, o1, o2] [] (zk B im lm) = some (some (.int 0), (zk B im lm)) := ze_ret (ok := true) rfl 2 rfl rfl
theorem d_80_41 {B : zeB} {im : Nat → Nat → Int32} {lm : Nat → Nat → Int64} (o0 : Option Value) (o1 : Option Value) (o2 : Option Value)  : zeRun 80 41 [o0, o1, o2] [] (zk B im lm) = some (some (.int 1), (zk B im lm)) := ze_ret (ok := true) rfl 3 rfl rfl
theorem d_80_15 {B : zeB} {im : Nat → Nat → Int32} {lm : Nat → Nat → Int64} (l1 : Int32) (l2 : Int32) (c0 : zeInb l1 6 = true) (c1 : zeInb l2 6 = true) : zeRun 80 15 [some (.ref 23), some (.int l1), some (.int l2)] [] (zk B im lm) = if (im 24 (Int32.toNatClampNeg l2)) ≤ (im 24 (Int32.toNatClampNeg l1)) then zeRun 80 34 [some (.ref 23), some (.int l1), some (.int l2)] [] (zk B im lm) else zeRun 80 30 [some (.ref 23), some (.int l1), some (.int l2)] [] (zk B im lm) := ze_if (ok := (zeInb l2 6 && (zeInb l1 6 && true))) rfl 9 rfl (zeA2 c1 (zeA2 c0 rfl))
theorem d_80_34 {B : zeB} {im : Nat → Nat → Int32} {lm : Nat → Nat → Int64} (o0 : Option Value) (o1 : Option Value) (o2 : Option Value)  : zeRun 80 34 [o0, o1, o2] [] (zk B im lm) = some (some (.int 0), (zk B im lm)) := ze_ret (ok := true) rfl 2 rfl rfl
theorem d_80_30 {B : zeB} {im : Nat → Nat → Int32} {lm : Nat → Nat → Int64} (o0 : Option Value) (o1 : Option Value) (o2 : Option Value)  : zeRun 80 30 [o0, o1, o2] [] (zk B im lm) = some (some (.int 1), (zk B im lm)) := ze_ret (ok := true) rfl 3 rfl rfl
def m_80 (l1 : Int32) (l2 : Int32) (im : zI) (lm : zJ) : zR :=
    zCk (zeInb l1 6) <|
    zCk (zeInb l2 6) <|
    some (if (im 24 (Int32.toNatClampNeg l1)) = (im 24 (Int32.toNatClampNeg l2)) then if l2 ≤ l1 then 0 else 1 else if (im 24 (Int32.toNatClampNeg l2)) ≤ (im 24 (Int32.toNatClampNeg l1)) then 0 else 1, im, lm)
theorem m_80_ok {B : zeB} (l1 : Int32) (l2 : Int32) (im : zI) (lm : zJ) : zL B 1 (m_80 l1 l2 im lm) (zeRun 80 0 [some (.ref 23), some (.int l1), some (.int l2)] [] (zk B im lm)) := by
  unfold m_80
  refine zL_ck fun c1 => ?_
  refine zL_ck fun c2 => ?_
  refine zL_ifm (d_80_0 _ _ c1 c2) (fun h => ?_) (fun h => ?_)
  · repeat rw [if_pos h]
    refine zL_ifm (d_80_36 _ _ _) (fun h => ?_) (fun h => ?_)
    · repeat rw [if_pos h]
      exact zL_ret (d_80_45 _ _ _)
    · repeat rw [if_neg h]
      exact zL_ret (d_80_41 _ _ _)
  · repeat rw [if_neg h]
    refine zL_ifm (d_80_15 _ _ c1 c2) (fun h => ?_) (fun h => ?_)
    · repeat rw [if_pos h]
      exact zL_ret (d_80_34 _ _ _)
    · repeat rw [if_neg h]
      exact zL_ret (d_80_30 _ _ _)
/-! X0_turnOf -/
theorem d_81_0 {B : zeB} {im : Nat → Nat → Int32} {lm : Nat → Nat → Int64} (l1 : Int32) (o2 : Option Value) (o3 : Option Value)  : zeRun 81 0 [some (.ref 23), some (.int l1), o2, o3] [] (zk B im lm) = zeRun 81 4 [some (.ref 23), some (.int l1), some (.int 0), some (.int 0)] [] (zk B im lm) := ze_go (ok := true) rfl 4 rfl rfl
theorem d_81_4 {B : zeB} {im : Nat → Nat → Int32} {lm : Nat → Nat → Int64} (l1 : Int32) (l2 : Int32) (l3 : Int32)  : zeRun 81 4 [some (.ref 23), some (.int l1), some (.int l2), some (.int l3)] [] (zk B im lm) = if 6 ≤ l3 then zeRun 81 37 [some (.ref 23), some (.int l1), some (.int l2), some (.int l3)] [] (zk B im lm) else zeRun 81 10 [some (.ref 23), some (.int l1), some (.int l2), some (.int l3)] [] (zk B im lm) := ze_if (ok := true) rfl 3 rfl rfl
theorem d_81_37 {B : zeB} {im : Nat → Nat → Int32} {lm : Nat → Nat → Int64} (o0 : Option Value) (o1 : Option Value) (l2 : Int32) (o3 : Option Value)  : zeRun 81 37 [o0, o1, some (.int l2), o3] [] (zk B im lm) = some (some (.int l2), (zk B im lm)) := ze_ret (ok := true) rfl 2 rfl rfl
theorem d_81_10 {B : zeB} {im : Nat → Nat → Int32} {lm : Nat → Nat → Int64} (l1 : Int32) (l2 : Int32) (l3 : Int32) (c0 : zeInb l3 6 = true) : zeRun 81 10 [some (.ref 23), some (.int l1), some (.int l2), some (.int l3)] [] (zk B im lm) = if (im 24 (Int32.toNatClampNeg l3)) ≤ 0 then zeRun 81 31 [some (.ref 23), some (.int l1), some (.int l2), some (.int l3)] [] (zk B im lm) else zeRun 81 19 [some (.ref 23), some (.int l1), some (.int l2), some (.int l3)] [] (zk B im lm) := ze_if (ok := (zeInb l3 6 && true)) rfl 5 rfl (zeA2 c0 rfl)
theorem d_81_31 {B : zeB} {im : Nat → Nat → Int32} {lm : Nat → Nat → Int64} (l1 : Int32) (l2 : Int32) (l3 : Int32)  : zeRun 81 31 [some (.ref 23), some (.int l1), some (.int l2), some (.int l3)] [] (zk B im lm) = zeRun 81 4 [some (.ref 23), some (.int l1), some (.int l2), some (.int (l3 + 1))] [] (zk B im lm) := ze_go (ok := true) rfl 2 rfl rfl
theorem d_81_19 {B : zeB} {im : Nat → Nat → Int32} {lm : Nat → Nat → Int64} (l1 : Int32) (l2 : Int32) (l3 : Int32)  : zeRun 81 19 [some (.ref 23), some (.int l1), some (.int l2), some (.int l3)] [] (zk B im lm) = zeBh 81 25 [some (.ref 23), some (.int l1), some (.int l2), some (.int l3)] [] (zeRun 80 0 [some (.ref 23), some (.int l3), some (.int l1)] [] (zk B im lm)) := ze_call (ok := true) rfl 4 rfl rfl rfl
theorem d_81_25 {B : zeB} {im : Nat → Nat → Int32} {lm : Nat → Nat → Int64} (l1 : Int32) (l2 : Int32) (l3 : Int32) (s0 : Int32)  : zeRun 81 25 [some (.ref 23), some (.int l1), some (.int l2), some (.int l3)] [.int s0] (zk B im lm) = if s0 = 0 then zeRun 81 31 [some (.ref 23), some (.int l1), some (.int l2), some (.int l3)] [] (zk B im lm) else zeRun 81 28 [some (.ref 23), some (.int l1), some (.int l2), some (.int l3)] [] (zk B im lm) := ze_if (ok := true) rfl 1 rfl rfl
theorem d_81_28 {B : zeB} {im : Nat → Nat → Int32} {lm : Nat → Nat → Int64} (l1 : Int32) (l2 : Int32) (l3 : Int32)  : zeRun 81 28 [some (.ref 23), some (.int l1), some (.int l2), some (.int l3)] [] (zk B im lm) = zeRun 81 4 [some (.ref 23), some (.int l1), some (.int (l2 + 1)), some (.int (l3 + 1))] [] (zk B im lm) := ze_go (ok := true) rfl 3 rfl rfl
def F_81_4  : Nat → Int32 → Int32 → Int32 → zI → zJ → zR
  | 0, _, _, _, _, _ => none
  | n + 1, l1, l2, l3, im, lm =>
    if 6 ≤ l3 then
      some (l2, im, lm)
    else
      zCk (zeInb l3 6) <|
      if (im 24 (Int32.toNatClampNeg l3)) ≤ 0 then
        F_81_4  n l1 l2 (l3 + 1) im lm
      else
        zBd (m_80 l3 l1 im lm) fun v1 im1 lm1 =>
        F_81_4  n l1 (if v1 = 0 then l2 else (l2 + 1)) (l3 + 1) im1 lm1
theorem F_81_4_ok {B : zeB} : ∀ (n : Nat) (l1 : Int32) (l2 : Int32) (l3 : Int32)  (im : zI) (lm : zJ), zL B 1 (F_81_4  n l1 l2 l3 im lm) (zeRun 81 4 [some (.ref 23), some (.int l1), some (.int l2), some (.int l3)] [] (zk B im lm)) := by
  intro n
  induction n with
  | zero => intros; exact zL_none
  | succ n ih =>
    intro l1 l2 l3 im lm
    unfold F_81_4
    refine zL_if (d_81_4 _ _ _) (fun h => ?_) (fun h => ?_)
    · skip
      exact zL_ret (d_81_37 _ _ _ _)
    · skip
      refine zL_ck fun c1 => ?_
      refine zL_if (d_81_10 _ _ _ c1) (fun h => ?_) (fun h => ?_)
      · skip
        refine zL_eq (d_81_31 _ _ _) ?_
        exact ih _ _ _ _ _
      · skip
        refine zL_bd (d_81_19 _ _ _) (m_80_ok _ _ _ _) fun v1 im1 lm1 => ?_
        refine zL_ifm (d_81_25 _ _ _ _) (fun h => ?_) (fun h => ?_)
        · repeat rw [if_pos h]
          refine zL_eq (d_81_31 _ _ _) ?_
          exact ih _ _ _ _ _
        · repeat rw [if_neg h]
          refine zL_eq (d_81_28 _ _ _) ?_
          exact ih _ _ _ _ _
def m_81 (l1 : Int32) (im : zI) (lm : zJ) : zR :=
    F_81_4  2000 l1 0 0 im lm
theorem m_81_ok {B : zeB} (l1 : Int32) (im : zI) (lm : zJ) : zL B 1 (m_81 l1 im lm) (zeRun 81 0 [some (.ref 23), some (.int l1), none, none] [] (zk B im lm)) := by
  unfold m_81
  refine zL_eq (d_81_0 _ _ _) ?_
  exact F_81_4_ok  _ _ _ _ _ _
