/-! pure: X7_doCorrect, X7_correct, X8_correct, X7_isEntry, X4_rememberScores, X4_changedScores, X7_doRejudge, X7_rejudge, X8_noEntry, X8_rejudge, X5_append, X7_type, X8_type, X7_clearText, X8_clearText, X5_signAt, X5_moveLength, X5_greatestDigit -/
/-! X7_doCorrect -/
theorem d_115_0 {B : zeB} {im : Nat → Nat → Int32} {lm : Nat → Nat → Int64} (l1 : Int32) (l2 : Int32)  : zeRun 115 0 [some (.ref 16), some (.int l1), some (.int l2)] [] (zk B im lm) = zeBh 115 5 [some (.ref 16), some (.int l1), some (.int l2)] [] (zeRun 38 0 [some (.ref 16), some (.int l1)] [] (zk B im lm)) := ze_call (ok := true) rfl 3 rfl rfl rfl
theorem d_115_5 {B : zeB} {im : Nat → Nat → Int32} {lm : Nat → Nat → Int64} (l1 : Int32) (l2 : Int32) (s0 : Int32)  : zeRun 115 5 [some (.ref 16), some (.int l1), some (.int l2)] [.int s0] (zk B im lm) = if s0 = 0 then zeRun 115 8 [some (.ref 16), some (.int l1), some (.int l2)] [] (zk B im lm) else zeRun 115 11 [some (.ref 16), some (.int l1), some (.int l2)] [] (zk B im lm) := ze_if (ok := true) rfl 1 rfl rfl
theorem d_115_8 {B : zeB} {im : Nat → Nat → Int32} {lm : Nat → Nat → Int64} (o0 : Option Value) (o1 : Option Value) (o2 : Option Value)  : zeRun 115 8 [o0, o1, o2] [] (zk B im lm) = some (some (.int (-10000001)), (zk B im lm)) := ze_ret (ok := true) rfl 2 rfl rfl
theorem d_115_11 {B : zeB} {im : Nat → Nat → Int32} {lm : Nat → Nat → Int64} (l1 : Int32) (l2 : Int32)  : zeRun 115 11 [some (.ref 16), some (.int l1), some (.int l2)] [] (zk B im lm) = if l2 < (-10000) then zeRun 115 25 [some (.ref 16), some (.int l1), some (.int l2)] [] (zk B im lm) else zeRun 115 18 [some (.ref 16), some (.int l1), some (.int l2)] [] (zk B im lm) := ze_if (ok := true) rfl 3 rfl rfl
theorem d_115_25 {B : zeB} {im : Nat → Nat → Int32} {lm : Nat → Nat → Int64} (o0 : Option Value) (o1 : Option Value) (o2 : Option Value)  : zeRun 115 25 [o0, o1, o2] [] (zk B im lm) = some (some (.int (-10000002)), (zk B im lm)) := ze_ret (ok := true) rfl 2 rfl rfl
theorem d_115_18 {B : zeB} {im : Nat → Nat → Int32} {lm : Nat → Nat → Int64} (l1 : Int32) (l2 : Int32)  : zeRun 115 18 [some (.ref 16), some (.int l1), some (.int l2)] [] (zk B im lm) = if l2 ≤ 10000 then zeRun 115 28 [some (.ref 16), some (.int l1), some (.int l2)] [] (zk B im lm) else zeRun 115 25 [some (.ref 16), some (.int l1), some (.int l2)] [] (zk B im lm) := ze_if (ok := true) rfl 3 rfl rfl
theorem d_115_28 {B : zeB} {im : Nat → Nat → Int32} {lm : Nat → Nat → Int64} (l1 : Int32) (l2 : Int32)  : zeRun 115 28 [some (.ref 16), some (.int l1), some (.int l2)] [] (zk B im lm) = zeBh 115 38 [some (.ref 16), some (.int l1), some (.int l2)] [] (zeRun 70 0 [some (.ref 26)] [] (zk B im lm)) := ze_call (ok := true) rfl 4 rfl rfl rfl
theorem d_115_38 {B : zeB} {im : Nat → Nat → Int32} {lm : Nat → Nat → Int64} (l1 : Int32) (l2 : Int32) (s0 : Int32)  : zeRun 115 38 [some (.ref 16), some (.int l1), some (.int l2)] [.int s0] (zk B im lm) = if s0 = 0 then zeRun 115 48 [some (.ref 16), some (.int l1), some (.int l2)] [] (zk B im lm) else zeRun 115 41 [some (.ref 16), some (.int l1), some (.int l2)] [] (zk B im lm) := ze_if (ok := true) rfl 1 rfl rfl
theorem d_115_48 {B : zeB} {im : Nat → Nat → Int32} {lm : Nat → Nat → Int64} (l1 : Int32) (l2 : Int32)  : zeRun 115 48 [some (.ref 16), some (.int l1), some (.int l2)] [] (zk B im lm) = zeBh 115 65 [some (.ref 16), some (.int l1), some (.int l2)] [] (zeRun 71 0 [some (.ref 26), some (.int l1), some (.int 4), some (.int (-10000005)), some (.int l2), some (.int (-10000005))] [] (zk B im lm)) := ze_call (ok := true) rfl 9 rfl rfl rfl
theorem d_115_65 {B : zeB} {im : Nat → Nat → Int32} {lm : Nat → Nat → Int64} (l1 : Int32) (o2 : Option Value)  : zeRun 115 65 [some (.ref 16), some (.int l1), o2] [] (zk B im lm) = zeBh 115 70 [some (.ref 16), some (.int l1), o2] [] (zeRun 77 0 [some (.ref 16), some (.int l1)] [] (zk B im lm)) := ze_call (ok := true) rfl 3 rfl rfl rfl
theorem d_115_70 {B : zeB} {im : Nat → Nat → Int32} {lm : Nat → Nat → Int64} (o0 : Option Value) (o1 : Option Value) (o2 : Option Value) (s0 : Int32)  : zeRun 115 70 [o0, o1, o2] [.int s0] (zk B im lm) = some (some (.int s0), (zk B im lm)) := ze_ret (ok := true) rfl 1 rfl rfl
theorem d_115_41 {B : zeB} {im : Nat → Nat → Int32} {lm : Nat → Nat → Int64} (o1 : Option Value) (o2 : Option Value)  : zeRun 115 41 [some (.ref 16), o1, o2] [] (zk B im lm) = zeBh 115 47 [some (.ref 16), o1, o2] [] (zeRun 17 0 [some (.ref 16), some (.int 7)] [] (zk B im lm)) := ze_call (ok := true) rfl 3 rfl rfl rfl
theorem d_115_47 {B : zeB} {im : Nat → Nat → Int32} {lm : Nat → Nat → Int64} (o0 : Option Value) (o1 : Option Value) (o2 : Option Value) (s0 : Int32)  : zeRun 115 47 [o0, o1, o2] [.int s0] (zk B im lm) = some (some (.int s0), (zk B im lm)) := ze_ret (ok := true) rfl 1 rfl rfl
def m_115 (l1 : Int32) (l2 : Int32) (im : zI) (lm : zJ) : zR :=
    if (if l1 < 0 then 0 else if (im 17 1) ≤ l1 then 0 else 1 : Int32) = 0 then
      some ((-10000001), im, lm)
    else
      if l2 < (-10000) then
        some ((-10000002), im, lm)
      else
        if l2 ≤ 10000 then
          if (if (im 26 0) < 60 then 0 else 1 : Int32) = 0 then
            zBd (m_71 l1 4 (-10000005) l2 (-10000005) im lm) fun _ im3 lm3 =>
            zBd (m_77 l1 im3 lm3) fun v4 im4 lm4 =>
            some (v4, im4, lm4)
          else
            zBd (m_17 7 im lm) fun v5 im5 lm5 =>
            some (v5, im5, lm5)
        else
          some ((-10000002), im, lm)
theorem m_115_ok {B : zeB} (l1 : Int32) (l2 : Int32) (im : zI) (lm : zJ) : zL B 1 (m_115 l1 l2 im lm) (zeRun 115 0 [some (.ref 16), some (.int l1), some (.int l2)] [] (zk B im lm)) := by
  unfold m_115
  refine zL_bdp (e := (if l1 < 0 then 0 else if (im 17 1) ≤ l1 then 0 else 1 : Int32)) (d_115_0 _ _) (m_38_ok _ _ _) ?_
  refine zL_if (d_115_5 _ _ _) (fun h => ?_) (fun h => ?_)
  · skip
    exact zL_ret (d_115_8 _ _ _)
  · skip
    refine zL_if (d_115_11 _ _) (fun h => ?_) (fun h => ?_)
    · skip
      exact zL_ret (d_115_25 _ _ _)
    · skip
      refine zL_if (d_115_18 _ _) (fun h => ?_) (fun h => ?_)
      · skip
        refine zL_bdp (e := (if (im 26 0) < 60 then 0 else 1 : Int32)) (d_115_28 _ _) (m_70_ok _ _) ?_
        refine zL_if (d_115_38 _ _ _) (fun h => ?_) (fun h => ?_)
        · skip
          refine zL_bdv (d_115_48 _ _) (m_71_ok _ _ _ _ _ _ _) fun _ im3 lm3 => ?_
          refine zL_bd (d_115_65 _ _) (m_77_ok _ _ _) fun v4 im4 lm4 => ?_
          exact zL_ret (d_115_70 _ _ _ _)
        · skip
          refine zL_bd (d_115_41 _ _) (m_17_ok _ _ _) fun v5 im5 lm5 => ?_
          exact zL_ret (d_115_47 _ _ _ _)
      · skip
        exact zL_ret (d_115_25 _ _ _)
/-! X7_correct -/
theorem d_116_0 {B : zeB} {im : Nat → Nat → Int32} {lm : Nat → Nat → Int64} (l1 : Int32) (l2 : Int32)  : zeRun 116 0 [some (.ref 16), some (.int l1), some (.int l2)] [] (zk B im lm) = zeBh 116 11 [some (.ref 16), some (.int l1), some (.int l2)] [] (zeRun 15 0 [some (.ref 42), some (.ref 17)] [] (zk B im lm)) := ze_call (ok := true) rfl 5 rfl rfl rfl
theorem d_116_11 {B : zeB} {im : Nat → Nat → Int32} {lm : Nat → Nat → Int64} (l1 : Int32) (l2 : Int32)  : zeRun 116 11 [some (.ref 16), some (.int l1), some (.int l2)] [] (zk B im lm) = zeBh 116 18 [some (.ref 16), some (.int l1), some (.int l2)] [.ref 16] (zeRun 115 0 [some (.ref 16), some (.int l1), some (.int l2)] [] (zk B im lm)) := ze_call (ok := true) rfl 5 rfl rfl rfl
theorem d_116_18 {B : zeB} {im : Nat → Nat → Int32} {lm : Nat → Nat → Int64} (o0 : Option Value) (o1 : Option Value) (o2 : Option Value) (s1 : Int32)  : zeRun 116 18 [o0, o1, o2] [.int s1, .ref 16] (zk B im lm) = zeBh 116 21 [o0, o1, o2] [] (zeRun 21 0 [some (.ref 16), some (.int s1)] [] (zk B im lm)) := ze_call (ok := true) rfl 1 rfl rfl rfl
theorem d_116_21 {B : zeB} {im : Nat → Nat → Int32} {lm : Nat → Nat → Int64} (o0 : Option Value) (o1 : Option Value) (o2 : Option Value) (s0 : Int32)  : zeRun 116 21 [o0, o1, o2] [.int s0] (zk B im lm) = some (some (.int s0), (zk B im lm)) := ze_ret (ok := true) rfl 1 rfl rfl
def m_116 (l1 : Int32) (l2 : Int32) (im : zI) (lm : zJ) : zR :=
    zBd (m_15  im lm) fun _ im1 lm1 =>
    zBd (m_115 l1 l2 im1 lm1) fun v2 im2 lm2 =>
    zBd (m_21 v2 im2 lm2) fun v3 im3 lm3 =>
    some (v3, im3, lm3)
theorem m_116_ok {B : zeB} (l1 : Int32) (l2 : Int32) (im : zI) (lm : zJ) : zL B 1 (m_116 l1 l2 im lm) (zeRun 116 0 [some (.ref 16), some (.int l1), some (.int l2)] [] (zk B im lm)) := by
  unfold m_116
  refine zL_bdv (d_116_0 _ _) (m_15_ok _ _) fun _ im1 lm1 => ?_
  refine zL_bd (d_116_11 _ _) (m_115_ok _ _ _ _) fun v2 im2 lm2 => ?_
  refine zL_bd (d_116_18 _ _ _ _) (m_21_ok _ _ _) fun v3 im3 lm3 => ?_
  exact zL_ret (d_116_21 _ _ _ _)
/-! X8_correct -/
theorem d_117_0 {B : zeB} {im : Nat → Nat → Int32} {lm : Nat → Nat → Int64} (l1 : Int32) (l2 : Int32)  : zeRun 117 0 [some (.ref 170), some (.int l1), some (.int l2)] [] (zk B im lm) = zeBh 117 5 [some (.ref 170), some (.int l1), some (.int l2)] [] (zeRun 44 0 [some (.ref 170), some (.int l1)] [] (zk B im lm)) := ze_call (ok := true) rfl 3 rfl rfl rfl
theorem d_117_5 {B : zeB} {im : Nat → Nat → Int32} {lm : Nat → Nat → Int64} (l1 : Int32) (l2 : Int32) (s0 : Int32)  : zeRun 117 5 [some (.ref 170), some (.int l1), some (.int l2)] [.int s0] (zk B im lm) = if s0 = 0 then zeRun 117 11 [some (.ref 170), some (.int l1), some (.int l2)] [] (zk B im lm) else zeRun 117 8 [some (.ref 170), some (.int l1), some (.int l2)] [] (zk B im lm) := ze_if (ok := true) rfl 1 rfl rfl
theorem d_117_11 {B : zeB} {im : Nat → Nat → Int32} {lm : Nat → Nat → Int64} (l1 : Int32) (l2 : Int32)  : zeRun 117 11 [some (.ref 170), some (.int l1), some (.int l2)] [] (zk B im lm) = zeBh 117 21 [some (.ref 170), some (.int l1), some (.int l2)] [] (zeRun 32 0 [some (.int l2), some (.int (-10000)), some (.int 10000)] [] (zk B im lm)) := ze_call (ok := true) rfl 4 rfl rfl rfl
theorem d_117_21 {B : zeB} {im : Nat → Nat → Int32} {lm : Nat → Nat → Int64} (l1 : Int32) (l2 : Int32) (s0 : Int32)  : zeRun 117 21 [some (.ref 170), some (.int l1), some (.int l2)] [.int s0] (zk B im lm) = if s0 = 0 then zeRun 117 24 [some (.ref 170), some (.int l1), some (.int l2)] [] (zk B im lm) else zeRun 117 27 [some (.ref 170), some (.int l1), some (.int l2)] [] (zk B im lm) := ze_if (ok := true) rfl 1 rfl rfl
theorem d_117_24 {B : zeB} {im : Nat → Nat → Int32} {lm : Nat → Nat → Int64} (o0 : Option Value) (o1 : Option Value) (o2 : Option Value)  : zeRun 117 24 [o0, o1, o2] [] (zk B im lm) = some (some (.int (-10000002)), (zk B im lm)) := ze_ret (ok := true) rfl 2 rfl rfl
theorem d_117_27 {B : zeB} {im : Nat → Nat → Int32} {lm : Nat → Nat → Int64} (l1 : Int32) (l2 : Int32)  : zeRun 117 27 [some (.ref 170), some (.int l1), some (.int l2)] [] (zk B im lm) = if (im 171 5) = 60 then zeRun 117 38 [some (.ref 170), some (.int l1), some (.int l2)] [] (zk B im lm) else zeRun 117 45 [some (.ref 170), some (.int l1), some (.int l2)] [] (zk B im lm) := ze_if (ok := true) rfl 6 rfl rfl
theorem d_117_38 {B : zeB} {im : Nat → Nat → Int32} {lm : Nat → Nat → Int64} (o1 : Option Value) (o2 : Option Value)  : zeRun 117 38 [some (.ref 170), o1, o2] [] (zk B im lm) = zeBh 117 44 [some (.ref 170), o1, o2] [] (zeRun 24 0 [some (.ref 170), some (.int 7)] [] (zk B im lm)) := ze_call (ok := true) rfl 3 rfl rfl rfl
theorem d_117_44 {B : zeB} {im : Nat → Nat → Int32} {lm : Nat → Nat → Int64} (o0 : Option Value) (o1 : Option Value) (o2 : Option Value) (s0 : Int32)  : zeRun 117 44 [o0, o1, o2] [.int s0] (zk B im lm) = some (some (.int s0), (zk B im lm)) := ze_ret (ok := true) rfl 1 rfl rfl
theorem d_117_45 {B : zeB} {im : Nat → Nat → Int32} {lm : Nat → Nat → Int64} (l1 : Int32) (l2 : Int32)  : zeRun 117 45 [some (.ref 170), some (.int l1), some (.int l2)] [] (zk B im lm) = zeBh 117 49 [some (.ref 170), some (.int l1), some (.int l2)] [] (zeRun 25 0 [some (.ref 170), none] [] (zk B im lm)) := ze_call (ok := true) rfl 2 rfl rfl rfl
theorem d_117_49 {B : zeB} {im : Nat → Nat → Int32} {lm : Nat → Nat → Int64} (l1 : Int32) (l2 : Int32)  : zeRun 117 49 [some (.ref 170), some (.int l1), some (.int l2)] [] (zk B im lm) = zeBh 117 58 [some (.ref 170), some (.int l1), some (.int l2)] [] (zeRun 89 0 [some (.ref 170), some (.int l1), some (.int 4), some (.int (-1)), some (.int l2), some (.int (-1)), none] [] (zk B im lm)) := ze_call (ok := true) rfl 7 rfl rfl rfl
theorem d_117_58 {B : zeB} {im : Nat → Nat → Int32} {lm : Nat → Nat → Int64} (l1 : Int32) (o2 : Option Value)  : zeRun 117 58 [some (.ref 170), some (.int l1), o2] [] (zk B im lm) = zeBh 117 62 [some (.ref 170), some (.int l1), o2] [] (zeRun 47 0 [some (.ref 170), none, none, none, none, none, none] [] (zk B im lm)) := ze_call (ok := true) rfl 2 rfl rfl rfl
theorem d_117_62 {B : zeB} {im : Nat → Nat → Int32} {lm : Nat → Nat → Int64} (l1 : Int32) (o2 : Option Value) (c0 : zeInb l1 6 = true) : zeRun 117 62 [some (.ref 170), some (.int l1), o2] [] (zk B im lm) = some (some (.int (im 175 (Int32.toNatClampNeg l1))), (zk B im lm)) := ze_ret (ok := (zeInb l1 6 && true)) rfl 5 rfl (zeA2 c0 rfl)
theorem d_117_8 {B : zeB} {im : Nat → Nat → Int32} {lm : Nat → Nat → Int64} (o0 : Option Value) (o1 : Option Value) (o2 : Option Value)  : zeRun 117 8 [o0, o1, o2] [] (zk B im lm) = some (some (.int (-10000001)), (zk B im lm)) := ze_ret (ok := true) rfl 2 rfl rfl
def m_117 (l1 : Int32) (l2 : Int32) (im : zI) (lm : zJ) : zR :=
    if (if (if l1 < 0 then 0 else if ((im 171 1) - 1) < l1 then 0 else 1 : Int32) = 0 then 1 else 0 : Int32) = 0 then
      if (if l2 < (-10000) then 0 else if 10000 < l2 then 0 else 1 : Int32) = 0 then
        some ((-10000002), im, lm)
      else
        if (im 171 5) = 60 then
          zBd (m_24 7 im lm) fun v3 im3 lm3 =>
          some (v3, im3, lm3)
        else
          zBd (m_25  im lm) fun _ im4 lm4 =>
          zBd (m_89 l1 4 (-1) l2 (-1) im4 lm4) fun _ im5 lm5 =>
          zBd (m_47  im5 lm5) fun _ im6 lm6 =>
          zCk (zeInb l1 6) <|
          some ((im6 175 (Int32.toNatClampNeg l1)), im6, lm6)
    else
      some ((-10000001), im, lm)
theorem m_117_ok {B : zeB} (l1 : Int32) (l2 : Int32) (im : zI) (lm : zJ) : zL B 1 (m_117 l1 l2 im lm) (zeRun 117 0 [some (.ref 170), some (.int l1), some (.int l2)] [] (zk B im lm)) := by
  unfold m_117
  refine zL_bdp (e := (if (if l1 < 0 then 0 else if ((im 171 1) - 1) < l1 then 0 else 1 : Int32) = 0 then 1 else 0 : Int32)) (d_117_0 _ _) (m_44_ok _ _ _) ?_
  refine zL_if (d_117_5 _ _ _) (fun h => ?_) (fun h => ?_)
  · skip
    refine zL_bdp (e := (if l2 < (-10000) then 0 else if 10000 < l2 then 0 else 1 : Int32)) (d_117_11 _ _) (m_32_ok _ _ _ _ _) ?_
    refine zL_if (d_117_21 _ _ _) (fun h => ?_) (fun h => ?_)
    · skip
      exact zL_ret (d_117_24 _ _ _)
    · skip
      refine zL_if (d_117_27 _ _) (fun h => ?_) (fun h => ?_)
      · skip
        refine zL_bd (d_117_38 _ _) (m_24_ok _ _ _) fun v3 im3 lm3 => ?_
        exact zL_ret (d_117_44 _ _ _ _)
      · skip
        refine zL_bdv (d_117_45 _ _) (m_25_ok _ _) fun _ im4 lm4 => ?_
        refine zL_bdv (d_117_49 _ _) (m_89_ok _ _ _ _ _ _ _) fun _ im5 lm5 => ?_
        refine zL_bdv (d_117_58 _ _) (m_47_ok _ _) fun _ im6 lm6 => ?_
        refine zL_ck fun c1 => ?_
        exact zL_ret (d_117_62 _ _ c1)
  · skip
    exact zL_ret (d_117_8 _ _ _)
/-! X7_isEntry -/
theorem d_118_0 {B : zeB} {im : Nat → Nat → Int32} {lm : Nat → Nat → Int64} (l1 : Int32)  : zeRun 118 0 [some (.ref 16), some (.int l1)] [] (zk B im lm) = if l1 < 0 then zeRun 118 22 [some (.ref 16), some (.int l1)] [] (zk B im lm) else zeRun 118 4 [some (.ref 16), some (.int l1)] [] (zk B im lm) := ze_if (ok := true) rfl 2 rfl rfl
theorem d_118_22 {B : zeB} {im : Nat → Nat → Int32} {lm : Nat → Nat → Int64} (o0 : Option Value) (o1 : Option Value)  : zeRun 118 22 [o0, o1] [] (zk B im lm) = some (some (.int 0), (zk B im lm)) := ze_ret (ok := true) rfl 2 rfl rfl
theorem d_118_4 {B : zeB} {im : Nat → Nat → Int32} {lm : Nat → Nat → Int64} (l1 : Int32)  : zeRun 118 4 [some (.ref 16), some (.int l1)] [] (zk B im lm) = if (im 26 0) ≤ l1 then zeRun 118 22 [some (.ref 16), some (.int l1)] [] (zk B im lm) else zeRun 118 18 [some (.ref 16), some (.int l1)] [] (zk B im lm) := ze_if (ok := true) rfl 6 rfl rfl
theorem d_118_18 {B : zeB} {im : Nat → Nat → Int32} {lm : Nat → Nat → Int64} (o0 : Option Value) (o1 : Option Value)  : zeRun 118 18 [o0, o1] [] (zk B im lm) = some (some (.int 1), (zk B im lm)) := ze_ret (ok := true) rfl 3 rfl rfl
def m_118 (l1 : Int32) (im : zI) (lm : zJ) : zR :=
    some (if l1 < 0 then 0 else if (im 26 0) ≤ l1 then 0 else 1, im, lm)
theorem m_118_ok {B : zeB} (l1 : Int32) (im : zI) (lm : zJ) : zL B 1 (m_118 l1 im lm) (zeRun 118 0 [some (.ref 16), some (.int l1)] [] (zk B im lm)) := by
  unfold m_118
  refine zL_ifm (d_118_0 _) (fun h => ?_) (fun h => ?_)
  · repeat rw [if_pos h]
    exact zL_ret (d_118_22 _ _)
  · repeat rw [if_neg h]
    refine zL_ifm (d_118_4 _) (fun h => ?_) (fun h => ?_)
    · repeat rw [if_pos h]
      exact zL_ret (d_118_22 _ _)
    · repeat rw [if_neg h]
      exact zL_ret (d_118_18 _ _)
/-! X4_rememberScores -/
theorem d_119_0 {B : zeB} {im : Nat → Nat → Int32} {lm : Nat → Nat → Int64}   : zeRun 119 0 [some (.ref 32)] [] (zk B im lm) = some (none, (zk B (zeCpy im 33 0 41 0 6) lm)) := ze_ret (ok := true) rfl 9 rfl rfl
def m_119  (im : zI) (lm : zJ) : zR :=
    some (0, (zeCpy im 33 0 41 0 6), lm)
theorem m_119_ok {B : zeB}  (im : zI) (lm : zJ) : zL B 0 (m_119  im lm) (zeRun 119 0 [some (.ref 32)] [] (zk B im lm)) := by
  unfold m_119
  exact zL_retv d_119_0
/-! X4_changedScores -/
theorem d_120_0 {B : zeB} {im : Nat → Nat → Int32} {lm : Nat → Nat → Int64} (o1 : Option Value) (o2 : Option Value)  : zeRun 120 0 [some (.ref 32), o1, o2] [] (zk B im lm) = zeRun 120 4 [some (.ref 32), some (.int 0), some (.int 0)] [] (zk B im lm) := ze_go (ok := true) rfl 4 rfl rfl
theorem d_120_4 {B : zeB} {im : Nat → Nat → Int32} {lm : Nat → Nat → Int64} (l1 : Int32) (l2 : Int32)  : zeRun 120 4 [some (.ref 32), some (.int l1), some (.int l2)] [] (zk B im lm) = if 6 ≤ l2 then zeRun 120 34 [some (.ref 32), some (.int l1), some (.int l2)] [] (zk B im lm) else zeRun 120 10 [some (.ref 32), some (.int l1), some (.int l2)] [] (zk B im lm) := ze_if (ok := true) rfl 3 rfl rfl
theorem d_120_34 {B : zeB} {im : Nat → Nat → Int32} {lm : Nat → Nat → Int64} (o0 : Option Value) (l1 : Int32) (o2 : Option Value)  : zeRun 120 34 [o0, some (.int l1), o2] [] (zk B im lm) = some (some (.int l1), (zk B im lm)) := ze_ret (ok := true) rfl 2 rfl rfl
theorem d_120_10 {B : zeB} {im : Nat → Nat → Int32} {lm : Nat → Nat → Int64} (l1 : Int32) (l2 : Int32) (c0 : zeInb l2 6 = true) (c1 : zeInb l2 6 = true) : zeRun 120 10 [some (.ref 32), some (.int l1), some (.int l2)] [] (zk B im lm) = if (im 33 (Int32.toNatClampNeg l2)) = (im 41 (Int32.toNatClampNeg l2)) then zeRun 120 28 [some (.ref 32), some (.int l1), some (.int l2)] [] (zk B im lm) else zeRun 120 25 [some (.ref 32), some (.int l1), some (.int l2)] [] (zk B im lm) := ze_if (ok := (zeInb l2 6 && (zeInb l2 6 && true))) rfl 9 rfl (zeA2 c1 (zeA2 c0 rfl))
theorem d_120_28 {B : zeB} {im : Nat → Nat → Int32} {lm : Nat → Nat → Int64} (l1 : Int32) (l2 : Int32)  : zeRun 120 28 [some (.ref 32), some (.int l1), some (.int l2)] [] (zk B im lm) = zeRun 120 4 [some (.ref 32), some (.int l1), some (.int (l2 + 1))] [] (zk B im lm) := ze_go (ok := true) rfl 2 rfl rfl
theorem d_120_25 {B : zeB} {im : Nat → Nat → Int32} {lm : Nat → Nat → Int64} (l1 : Int32) (l2 : Int32)  : zeRun 120 25 [some (.ref 32), some (.int l1), some (.int l2)] [] (zk B im lm) = zeRun 120 4 [some (.ref 32), some (.int (l1 + 1)), some (.int (l2 + 1))] [] (zk B im lm) := ze_go (ok := true) rfl 3 rfl rfl
def F_120_4  : Nat → Int32 → Int32 → zI → zJ → zR
  | 0, _, _, _, _ => none
  | n + 1, l1, l2, im, lm =>
    if 6 ≤ l2 then
      some (l1, im, lm)
    else
      zCk (zeInb l2 6) <|
      F_120_4  n (if (im 33 (Int32.toNatClampNeg l2)) = (im 41 (Int32.toNatClampNeg l2)) then l1 else (l1 + 1)) (l2 + 1) im lm
theorem F_120_4_ok {B : zeB} : ∀ (n : Nat) (l1 : Int32) (l2 : Int32)  (im : zI) (lm : zJ), zL B 1 (F_120_4  n l1 l2 im lm) (zeRun 120 4 [some (.ref 32), some (.int l1), some (.int l2)] [] (zk B im lm)) := by
  intro n
  induction n with
  | zero => intros; exact zL_none
  | succ n ih =>
    intro l1 l2 im lm
    unfold F_120_4
    refine zL_if (d_120_4 _ _) (fun h => ?_) (fun h => ?_)
    · skip
      exact zL_ret (d_120_34 _ _ _)
    · skip
      refine zL_ck fun c1 => ?_
      refine zL_ifm (d_120_10 _ _ c1 c1) (fun h => ?_) (fun h => ?_)
      · repeat rw [if_pos h]
        refine zL_eq (d_120_28 _ _) ?_
        exact ih _ _ _ _
      · repeat rw [if_neg h]
        refine zL_eq (d_120_25 _ _) ?_
        exact ih _ _ _ _
def m_120  (im : zI) (lm : zJ) : zR :=
    F_120_4  2000 0 0 im lm
theorem m_120_ok {B : zeB}  (im : zI) (lm : zJ) : zL B 1 (m_120  im lm) (zeRun 120 0 [some (.ref 32), none, none] [] (zk B im lm)) := by
  unfold m_120
  refine zL_eq (d_120_0 _ _) ?_
  exact F_120_4_ok  _ _ _ _ _
/-! X7_doRejudge -/
theorem d_121_0 {B : zeB} {im : Nat → Nat → Int32} {lm : Nat → Nat → Int64} (l1 : Int32)  : zeRun 121 0 [some (.ref 16), some (.int l1)] [] (zk B im lm) = zeBh 121 5 [some (.ref 16), some (.int l1)] [] (zeRun 118 0 [some (.ref 16), some (.int l1)] [] (zk B im lm)) := ze_call (ok := true) rfl 3 rfl rfl rfl
theorem d_121_5 {B : zeB} {im : Nat → Nat → Int32} {lm : Nat → Nat → Int64} (l1 : Int32) (s0 : Int32)  : zeRun 121 5 [some (.ref 16), some (.int l1)] [.int s0] (zk B im lm) = if s0 = 0 then zeRun 121 8 [some (.ref 16), some (.int l1)] [] (zk B im lm) else zeRun 121 11 [some (.ref 16), some (.int l1)] [] (zk B im lm) := ze_if (ok := true) rfl 1 rfl rfl
theorem d_121_8 {B : zeB} {im : Nat → Nat → Int32} {lm : Nat → Nat → Int64} (o0 : Option Value) (o1 : Option Value)  : zeRun 121 8 [o0, o1] [] (zk B im lm) = some (some (.int (-10000001)), (zk B im lm)) := ze_ret (ok := true) rfl 2 rfl rfl
theorem d_121_11 {B : zeB} {im : Nat → Nat → Int32} {lm : Nat → Nat → Int64} (l1 : Int32) (c0 : zeInb l1 60 = true) : zeRun 121 11 [some (.ref 16), some (.int l1)] [] (zk B im lm) = if (im 28 (Int32.toNatClampNeg l1)) = 4 then zeRun 121 27 [some (.ref 16), some (.int l1)] [] (zk B im lm) else zeRun 121 30 [some (.ref 16), some (.int l1)] [] (zk B im lm) := ze_if (ok := (zeInb l1 60 && true)) rfl 8 rfl (zeA2 c0 rfl)
theorem d_121_27 {B : zeB} {im : Nat → Nat → Int32} {lm : Nat → Nat → Int64} (o0 : Option Value) (o1 : Option Value)  : zeRun 121 27 [o0, o1] [] (zk B im lm) = some (some (.int (-10000002)), (zk B im lm)) := ze_ret (ok := true) rfl 2 rfl rfl
theorem d_121_30 {B : zeB} {im : Nat → Nat → Int32} {lm : Nat → Nat → Int64} (l1 : Int32)  : zeRun 121 30 [some (.ref 16), some (.int l1)] [] (zk B im lm) = zeBh 121 37 [some (.ref 16), some (.int l1)] [] (zeRun 119 0 [some (.ref 32)] [] (zk B im lm)) := ze_call (ok := true) rfl 3 rfl rfl rfl
theorem d_121_37 {B : zeB} {im : Nat → Nat → Int32} {lm : Nat → Nat → Int64} (l1 : Int32) (c0 : zeInb l1 60 = true) (c1 : zeInb l1 60 = true) : zeRun 121 37 [some (.ref 16), some (.int l1)] [] (zk B im lm) = zeBh 121 77 [some (.ref 16), some (.int l1)] [] (zeRun 76 0 [some (.ref 32), some (.ref 26), none] [] (zk B (zeU2 im 31 (Int32.toNatClampNeg l1) (1 - (im 31 (Int32.toNatClampNeg l1)))) lm)) := ze_call (ok := (zeInb l1 60 && (zeInb l1 60 && true))) rfl 20 rfl rfl (zeA2 c1 (zeA2 c0 rfl))
theorem d_121_77 {B : zeB} {im : Nat → Nat → Int32} {lm : Nat → Nat → Int64} (o1 : Option Value)  : zeRun 121 77 [some (.ref 16), o1] [] (zk B im lm) = zeBh 121 84 [some (.ref 16), o1] [] (zeRun 120 0 [some (.ref 32), none, none] [] (zk B im lm)) := ze_call (ok := true) rfl 3 rfl rfl rfl
theorem d_121_84 {B : zeB} {im : Nat → Nat → Int32} {lm : Nat → Nat → Int64} (o0 : Option Value) (o1 : Option Value) (s0 : Int32)  : zeRun 121 84 [o0, o1] [.int s0] (zk B im lm) = some (some (.int s0), (zk B im lm)) := ze_ret (ok := true) rfl 1 rfl rfl
def m_121 (l1 : Int32) (im : zI) (lm : zJ) : zR :=
    if (if l1 < 0 then 0 else if (im 26 0) ≤ l1 then 0 else 1 : Int32) = 0 then
      some ((-10000001), im, lm)
    else
      zCk (zeInb l1 60) <|
      if (im 28 (Int32.toNatClampNeg l1)) = 4 then
        some ((-10000002), im, lm)
      else
        zBd (m_119  im lm) fun _ im2 lm2 =>
        zBd (m_76  (zeU2 im2 31 (Int32.toNatClampNeg l1) (1 - (im2 31 (Int32.toNatClampNeg l1)))) lm2) fun _ im3 lm3 =>
        zBd (m_120  im3 lm3) fun v4 im4 lm4 =>
        some (v4, im4, lm4)
theorem m_121_ok {B : zeB} (l1 : Int32) (im : zI) (lm : zJ) : zL B 1 (m_121 l1 im lm) (zeRun 121 0 [some (.ref 16), some (.int l1)] [] (zk B im lm)) := by
  unfold m_121
  refine zL_bdp (e := (if l1 < 0 then 0 else if (im 26 0) ≤ l1 then 0 else 1 : Int32)) (d_121_0 _) (m_118_ok _ _ _) ?_
  refine zL_if (d_121_5 _ _) (fun h => ?_) (fun h => ?_)
  · skip
    exact zL_ret (d_121_8 _ _)
  · skip
    refine zL_ck fun c1 => ?_
    refine zL_if (d_121_11 _ c1) (fun h => ?_) (fun h => ?_)
    · skip
      exact zL_ret (d_121_27 _ _)
    · skip
      refine zL_bdv (d_121_30 _) (m_119_ok _ _) fun _ im2 lm2 => ?_
      refine zL_bdv (d_121_37 _ c1 c1) (m_76_ok _ _) fun _ im3 lm3 => ?_
      refine zL_bd (d_121_77 _) (m_120_ok _ _) fun v4 im4 lm4 => ?_
      exact zL_ret (d_121_84 _ _ _)
/-! X7_rejudge -/
theorem d_122_0 {B : zeB} {im : Nat → Nat → Int32} {lm : Nat → Nat → Int64} (l1 : Int32)  : zeRun 122 0 [some (.ref 16), some (.int l1)] [] (zk B im lm) = zeBh 122 11 [some (.ref 16), some (.int l1)] [] (zeRun 15 0 [some (.ref 42), some (.ref 17)] [] (zk B im lm)) := ze_call (ok := true) rfl 5 rfl rfl rfl
theorem d_122_11 {B : zeB} {im : Nat → Nat → Int32} {lm : Nat → Nat → Int64} (l1 : Int32)  : zeRun 122 11 [some (.ref 16), some (.int l1)] [] (zk B im lm) = zeBh 122 17 [some (.ref 16), some (.int l1)] [.ref 16] (zeRun 121 0 [some (.ref 16), some (.int l1)] [] (zk B im lm)) := ze_call (ok := true) rfl 4 rfl rfl rfl
theorem d_122_17 {B : zeB} {im : Nat → Nat → Int32} {lm : Nat → Nat → Int64} (o0 : Option Value) (o1 : Option Value) (s1 : Int32)  : zeRun 122 17 [o0, o1] [.int s1, .ref 16] (zk B im lm) = zeBh 122 20 [o0, o1] [] (zeRun 21 0 [some (.ref 16), some (.int s1)] [] (zk B im lm)) := ze_call (ok := true) rfl 1 rfl rfl rfl
theorem d_122_20 {B : zeB} {im : Nat → Nat → Int32} {lm : Nat → Nat → Int64} (o0 : Option Value) (o1 : Option Value) (s0 : Int32)  : zeRun 122 20 [o0, o1] [.int s0] (zk B im lm) = some (some (.int s0), (zk B im lm)) := ze_ret (ok := true) rfl 1 rfl rfl
def m_122 (l1 : Int32) (im : zI) (lm : zJ) : zR :=
    zBd (m_15  im lm) fun _ im1 lm1 =>
    zBd (m_121 l1 im1 lm1) fun v2 im2 lm2 =>
    zBd (m_21 v2 im2 lm2) fun v3 im3 lm3 =>
    some (v3, im3, lm3)
theorem m_122_ok {B : zeB} (l1 : Int32) (im : zI) (lm : zJ) : zL B 1 (m_122 l1 im lm) (zeRun 122 0 [some (.ref 16), some (.int l1)] [] (zk B im lm)) := by
  unfold m_122
  refine zL_bdv (d_122_0 _) (m_15_ok _ _) fun _ im1 lm1 => ?_
  refine zL_bd (d_122_11 _) (m_121_ok _ _ _) fun v2 im2 lm2 => ?_
  refine zL_bd (d_122_17 _ _ _) (m_21_ok _ _ _) fun v3 im3 lm3 => ?_
  exact zL_ret (d_122_20 _ _ _)
/-! X8_noEntry -/
theorem d_123_0 {B : zeB} {im : Nat → Nat → Int32} {lm : Nat → Nat → Int64} (l1 : Int32)  : zeRun 123 0 [some (.ref 170), some (.int l1)] [] (zk B im lm) = zeBh 123 13 [some (.ref 170), some (.int l1)] [] (zeRun 32 0 [some (.int l1), some (.int 0), some (.int ((im 171 5) - 1))] [] (zk B im lm)) := ze_call (ok := true) rfl 9 rfl rfl rfl
theorem d_123_13 {B : zeB} {im : Nat → Nat → Int32} {lm : Nat → Nat → Int64} (o0 : Option Value) (o1 : Option Value) (s0 : Int32)  : zeRun 123 13 [o0, o1] [.int s0] (zk B im lm) = if s0 = 0 then zeRun 123 16 [o0, o1] [] (zk B im lm) else zeRun 123 20 [o0, o1] [] (zk B im lm) := ze_if (ok := true) rfl 1 rfl rfl
theorem d_123_16 {B : zeB} {im : Nat → Nat → Int32} {lm : Nat → Nat → Int64} (o0 : Option Value) (o1 : Option Value)  : zeRun 123 16 [o0, o1] [] (zk B im lm) = some (some (.int 1), (zk B im lm)) := ze_ret (ok := true) rfl 3 rfl rfl
theorem d_123_20 {B : zeB} {im : Nat → Nat → Int32} {lm : Nat → Nat → Int64} (o0 : Option Value) (o1 : Option Value)  : zeRun 123 20 [o0, o1] [] (zk B im lm) = some (some (.int 0), (zk B im lm)) := ze_ret (ok := true) rfl 2 rfl rfl
def m_123 (l1 : Int32) (im : zI) (lm : zJ) : zR :=
    some (if (if l1 < 0 then 0 else if ((im 171 5) - 1) < l1 then 0 else 1 : Int32) = 0 then 1 else 0, im, lm)
theorem m_123_ok {B : zeB} (l1 : Int32) (im : zI) (lm : zJ) : zL B 1 (m_123 l1 im lm) (zeRun 123 0 [some (.ref 170), some (.int l1)] [] (zk B im lm)) := by
  unfold m_123
  refine zL_bdp (e := (if l1 < 0 then 0 else if ((im 171 5) - 1) < l1 then 0 else 1 : Int32)) (d_123_0 _) (m_32_ok _ _ _ _ _) ?_
  refine zL_ifm (d_123_13 _ _ _) (fun h => ?_) (fun h => ?_)
  · repeat rw [if_pos h]
    exact zL_ret (d_123_16 _ _)
  · repeat rw [if_neg h]
    exact zL_ret (d_123_20 _ _)
/-! X8_rejudge -/
theorem d_124_0 {B : zeB} {im : Nat → Nat → Int32} {lm : Nat → Nat → Int64} (l1 : Int32) (o2 : Option Value) (o3 : Option Value) (o4 : Option Value)  : zeRun 124 0 [some (.ref 170), some (.int l1), o2, o3, o4] [] (zk B im lm) = zeBh 124 5 [some (.ref 170), some (.int l1), o2, o3, o4] [] (zeRun 123 0 [some (.ref 170), some (.int l1)] [] (zk B im lm)) := ze_call (ok := true) rfl 3 rfl rfl rfl
theorem d_124_5 {B : zeB} {im : Nat → Nat → Int32} {lm : Nat → Nat → Int64} (l1 : Int32) (o2 : Option Value) (o3 : Option Value) (o4 : Option Value) (s0 : Int32)  : zeRun 124 5 [some (.ref 170), some (.int l1), o2, o3, o4] [.int s0] (zk B im lm) = if s0 = 0 then zeRun 124 11 [some (.ref 170), some (.int l1), o2, o3, o4] [] (zk B im lm) else zeRun 124 8 [some (.ref 170), some (.int l1), o2, o3, o4] [] (zk B im lm) := ze_if (ok := true) rfl 1 rfl rfl
theorem d_124_11 {B : zeB} {im : Nat → Nat → Int32} {lm : Nat → Nat → Int64} (l1 : Int32) (o2 : Option Value) (o3 : Option Value) (o4 : Option Value)  : zeRun 124 11 [some (.ref 170), some (.int l1), o2, o3, o4] [] (zk B im lm) = zeBh 124 19 [some (.ref 170), some (.int l1), o2, o3, o4] [.ref 171] (zeRun 45 0 [some (.int l1)] [] (zk B im lm)) := ze_call (ok := true) rfl 4 rfl rfl rfl
theorem d_124_19 {B : zeB} {im : Nat → Nat → Int32} {lm : Nat → Nat → Int64} (l1 : Int32) (o2 : Option Value) (o3 : Option Value) (o4 : Option Value) (s1 : Int32) (c0 : zeInb (s1 + 1) 360 = true) : zeRun 124 19 [some (.ref 170), some (.int l1), o2, o3, o4] [.int s1, .ref 171] (zk B im lm) = if (im 171 (Int32.toNatClampNeg (s1 + 1))) = 4 then zeRun 124 26 [some (.ref 170), some (.int l1), o2, o3, o4] [] (zk B im lm) else zeRun 124 29 [some (.ref 170), some (.int l1), o2, o3, o4] [] (zk B im lm) := ze_if (ok := (zeInb (s1 + 1) 360 && true)) rfl 5 rfl (zeA2 c0 rfl)
theorem d_124_26 {B : zeB} {im : Nat → Nat → Int32} {lm : Nat → Nat → Int64} (o0 : Option Value) (o1 : Option Value) (o2 : Option Value) (o3 : Option Value) (o4 : Option Value)  : zeRun 124 26 [o0, o1, o2, o3, o4] [] (zk B im lm) = some (some (.int (-10000002)), (zk B im lm)) := ze_ret (ok := true) rfl 2 rfl rfl
theorem d_124_29 {B : zeB} {im : Nat → Nat → Int32} {lm : Nat → Nat → Int64} (l1 : Int32) (o2 : Option Value) (o3 : Option Value) (o4 : Option Value)  : zeRun 124 29 [some (.ref 170), some (.int l1), o2, o3, o4] [] (zk B im lm) = zeBh 124 33 [some (.ref 170), some (.int l1), o2, o3, o4] [] (zeRun 25 0 [some (.ref 170), none] [] (zk B im lm)) := ze_call (ok := true) rfl 2 rfl rfl rfl
theorem d_124_33 {B : zeB} {im : Nat → Nat → Int32} {lm : Nat → Nat → Int64} (l1 : Int32) (o2 : Option Value) (o3 : Option Value) (o4 : Option Value)  : zeRun 124 33 [some (.ref 170), some (.int l1), o2, o3, o4] [] (zk B im lm) = zeBh 124 42 [some (.ref 170), some (.int l1), some (.ref 183), o3, o4] [] (zeRun 47 0 [some (.ref 170), none, none, none, none, none, none] [] (zk B im lm)) := ze_call (ok := true) rfl 5 rfl rfl rfl
theorem d_124_42 {B : zeB} {im : Nat → Nat → Int32} {lm : Nat → Nat → Int64} (l1 : Int32) (o3 : Option Value) (o4 : Option Value)  : zeRun 124 42 [some (.ref 170), some (.int l1), some (.ref 183), o3, o4] [] (zk B im lm) = zeRun 124 44 [some (.ref 170), some (.int l1), some (.ref 183), some (.int 0), o4] [] (zk B im lm) := ze_go (ok := true) rfl 2 rfl rfl
theorem d_124_8 {B : zeB} {im : Nat → Nat → Int32} {lm : Nat → Nat → Int64} (o0 : Option Value) (o1 : Option Value) (o2 : Option Value) (o3 : Option Value) (o4 : Option Value)  : zeRun 124 8 [o0, o1, o2, o3, o4] [] (zk B im lm) = some (some (.int (-10000001)), (zk B im lm)) := ze_ret (ok := true) rfl 2 rfl rfl
theorem d_124_44 {B : zeB} {im : Nat → Nat → Int32} {lm : Nat → Nat → Int64} (l1 : Int32) (l3 : Int32) (o4 : Option Value)  : zeRun 124 44 [some (.ref 170), some (.int l1), some (.ref 183), some (.int l3), o4] [] (zk B im lm) = if 6 ≤ l3 then zeRun 124 65 [some (.ref 170), some (.int l1), some (.ref 183), some (.int l3), o4] [] (zk B im lm) else zeRun 124 50 [some (.ref 170), some (.int l1), some (.ref 183), some (.int l3), o4] [] (zk B im lm) := ze_if (ok := true) rfl 3 rfl rfl
theorem d_124_65 {B : zeB} {im : Nat → Nat → Int32} {lm : Nat → Nat → Int64} (l1 : Int32) (o3 : Option Value) (o4 : Option Value)  : zeRun 124 65 [some (.ref 170), some (.int l1), some (.ref 183), o3, o4] [] (zk B im lm) = zeBh 124 73 [some (.ref 170), some (.int l1), some (.ref 183), o3, o4] [.ref 171] (zeRun 45 0 [some (.int l1)] [] (zk B im lm)) := ze_call (ok := true) rfl 4 rfl rfl rfl
theorem d_124_73 {B : zeB} {im : Nat → Nat → Int32} {lm : Nat → Nat → Int64} (l1 : Int32) (o3 : Option Value) (o4 : Option Value) (s1 : Int32)  : zeRun 124 73 [some (.ref 170), some (.int l1), some (.ref 183), o3, o4] [.int s1, .ref 171] (zk B im lm) = zeBh 124 84 [some (.ref 170), some (.int l1), some (.ref 183), o3, o4] [.ref 171, .int 1, .int (s1 + 4), .ref 171] (zeRun 45 0 [some (.int l1)] [] (zk B im lm)) := ze_call (ok := true) rfl 7 rfl rfl rfl
theorem d_124_84 {B : zeB} {im : Nat → Nat → Int32} {lm : Nat → Nat → Int64} (o1 : Option Value) (o3 : Option Value) (o4 : Option Value) (s1 : Int32) (s2 : Int32) (s4 : Int32) (c0 : zeInb (s4 + 4) 360 = true) (c1 : zeInb s1 360 = true) : zeRun 124 84 [some (.ref 170), o1, some (.ref 183), o3, o4] [.int s4, .ref 171, .int s2, .int s1, .ref 171] (zk B im lm) = zeBh 124 93 [some (.ref 170), o1, some (.ref 183), o3, o4] [] (zeRun 47 0 [some (.ref 170), none, none, none, none, none, none] [] (zk B (zeU2 im 171 (Int32.toNatClampNeg s1) (s2 - (im 171 (Int32.toNatClampNeg (s4 + 4))))) lm)) := ze_call (ok := (zeInb s1 360 && (zeInb (s4 + 4) 360 && true))) rfl 7 rfl rfl (zeA2 c1 (zeA2 c0 rfl))
theorem d_124_93 {B : zeB} {im : Nat → Nat → Int32} {lm : Nat → Nat → Int64} (o1 : Option Value) (o3 : Option Value) (o4 : Option Value)  : zeRun 124 93 [some (.ref 170), o1, some (.ref 183), o3, o4] [] (zk B im lm) = zeRun 124 98 [some (.ref 170), o1, some (.ref 183), some (.int 0), some (.int 0)] [] (zk B im lm) := ze_go (ok := true) rfl 4 rfl rfl
theorem d_124_50 {B : zeB} {im : Nat → Nat → Int32} {lm : Nat → Nat → Int64} (l1 : Int32) (l3 : Int32) (o4 : Option Value) (c0 : zeInb l3 6 = true) (c1 : zeInb l3 6 = true) : zeRun 124 50 [some (.ref 170), some (.int l1), some (.ref 183), some (.int l3), o4] [] (zk B im lm) = zeRun 124 44 [some (.ref 170), some (.int l1), some (.ref 183), some (.int (l3 + 1)), o4] [] (zk B (zeU2 im 183 (Int32.toNatClampNeg l3) (im 175 (Int32.toNatClampNeg l3))) lm) := ze_go (ok := (zeInb l3 6 && (zeInb l3 6 && true))) rfl 9 rfl (zeA2 c1 (zeA2 c0 rfl))
theorem d_124_98 {B : zeB} {im : Nat → Nat → Int32} {lm : Nat → Nat → Int64} (o1 : Option Value) (l3 : Int32) (l4 : Int32)  : zeRun 124 98 [some (.ref 170), o1, some (.ref 183), some (.int l3), some (.int l4)] [] (zk B im lm) = if 6 ≤ l4 then zeRun 124 133 [some (.ref 170), o1, some (.ref 183), some (.int l3), some (.int l4)] [] (zk B im lm) else zeRun 124 105 [some (.ref 170), o1, some (.ref 183), some (.int l3), some (.int l4)] [] (zk B im lm) := ze_if (ok := true) rfl 3 rfl rfl
theorem d_124_133 {B : zeB} {im : Nat → Nat → Int32} {lm : Nat → Nat → Int64} (o0 : Option Value) (o1 : Option Value) (o2 : Option Value) (l3 : Int32) (o4 : Option Value)  : zeRun 124 133 [o0, o1, o2, some (.int l3), o4] [] (zk B im lm) = some (some (.int l3), (zk B im lm)) := ze_ret (ok := true) rfl 2 rfl rfl
theorem d_124_105 {B : zeB} {im : Nat → Nat → Int32} {lm : Nat → Nat → Int64} (o1 : Option Value) (l3 : Int32) (l4 : Int32) (c0 : zeInb l4 6 = true) (c1 : zeInb l4 6 = true) : zeRun 124 105 [some (.ref 170), o1, some (.ref 183), some (.int l3), some (.int l4)] [] (zk B im lm) = if (im 183 (Int32.toNatClampNeg l4)) = (im 175 (Int32.toNatClampNeg l4)) then zeRun 124 124 [some (.ref 170), o1, some (.ref 183), some (.int l3), some (.int l4)] [.int l3] (zk B im lm) else zeRun 124 120 [some (.ref 170), o1, some (.ref 183), some (.int l3), some (.int l4)] [.int l3] (zk B im lm) := ze_if (ok := (zeInb l4 6 && (zeInb l4 6 && true))) rfl 9 rfl (zeA2 c1 (zeA2 c0 rfl))
theorem d_124_124 {B : zeB} {im : Nat → Nat → Int32} {lm : Nat → Nat → Int64} (o1 : Option Value) (o3 : Option Value) (l4 : Int32) (s0 : Int32)  : zeRun 124 124 [some (.ref 170), o1, some (.ref 183), o3, some (.int l4)] [.int s0] (zk B im lm) = zeRun 124 98 [some (.ref 170), o1, some (.ref 183), some (.int (s0 + 0)), some (.int (l4 + 1))] [] (zk B im lm) := ze_go (ok := true) rfl 5 rfl rfl
theorem d_124_120 {B : zeB} {im : Nat → Nat → Int32} {lm : Nat → Nat → Int64} (o1 : Option Value) (o3 : Option Value) (l4 : Int32) (s0 : Int32)  : zeRun 124 120 [some (.ref 170), o1, some (.ref 183), o3, some (.int l4)] [.int s0] (zk B im lm) = zeRun 124 98 [some (.ref 170), o1, some (.ref 183), some (.int (s0 + 1)), some (.int (l4 + 1))] [] (zk B im lm) := ze_go (ok := true) rfl 6 rfl rfl
def F_124_98  : Nat → Int32 → Int32 → zI → zJ → zR
  | 0, _, _, _, _ => none
  | n + 1, l3, l4, im, lm =>
    if 6 ≤ l4 then
      some (l3, im, lm)
    else
      zCk (zeInb l4 6) <|
      F_124_98  n (if (im 183 (Int32.toNatClampNeg l4)) = (im 175 (Int32.toNatClampNeg l4)) then (l3 + 0) else (l3 + 1)) (l4 + 1) im lm
theorem F_124_98_ok {B : zeB} : ∀ (n : Nat) (l3 : Int32) (l4 : Int32) (o1 : Option Value) (im : zI) (lm : zJ), zL B 1 (F_124_98  n l3 l4 im lm) (zeRun 124 98 [some (.ref 170), o1, some (.ref 183), some (.int l3), some (.int l4)] [] (zk B im lm)) := by
  intro n
  induction n with
  | zero => intros; exact zL_none
  | succ n ih =>
    intro l3 l4 o1 im lm
    unfold F_124_98
    refine zL_if (d_124_98 _ _ _) (fun h => ?_) (fun h => ?_)
    · skip
      exact zL_ret (d_124_133 _ _ _ _ _)
    · skip
      refine zL_ck fun c1 => ?_
      refine zL_ifm (d_124_105 _ _ _ c1 c1) (fun h => ?_) (fun h => ?_)
      · repeat rw [if_pos h]
        refine zL_eq (d_124_124 _ _ _ _) ?_
        exact ih _ _ _ _ _
      · repeat rw [if_neg h]
        refine zL_eq (d_124_120 _ _ _ _) ?_
        exact ih _ _ _ _ _
def F_124_44  : Nat → Int32 → Int32 → zI → zJ → zR
  | 0, _, _, _, _ => none
  | n + 1, l1, l3, im, lm =>
    if 6 ≤ l3 then
      zCk (zeInb (((60 + (5 * l1)) : Int32) + 4) 360) <|
      zBd (m_47  (zeU2 im 171 (Int32.toNatClampNeg (((60 + (5 * l1)) : Int32) + 4)) (1 - (im 171 (Int32.toNatClampNeg (((60 + (5 * l1)) : Int32) + 4))))) lm) fun _ im3 lm3 =>
      F_124_98  2000 0 0 im3 lm3
    else
      zCk (zeInb l3 6) <|
      F_124_44  n l1 (l3 + 1) (zeU2 im 183 (Int32.toNatClampNeg l3) (im 175 (Int32.toNatClampNeg l3))) lm
theorem F_124_44_ok {B : zeB} : ∀ (n : Nat) (l1 : Int32) (l3 : Int32) (o4 : Option Value) (im : zI) (lm : zJ), zL B 1 (F_124_44  n l1 l3 im lm) (zeRun 124 44 [some (.ref 170), some (.int l1), some (.ref 183), some (.int l3), o4] [] (zk B im lm)) := by
  intro n
  induction n with
  | zero => intros; exact zL_none
  | succ n ih =>
    intro l1 l3 o4 im lm
    unfold F_124_44
    refine zL_if (d_124_44 _ _ _) (fun h => ?_) (fun h => ?_)
    · skip
      refine zL_bdp (e := ((60 + (5 * l1)) : Int32)) (d_124_65 _ _ _) (m_45_ok _ _ _) ?_
      refine zL_bdp (e := ((60 + (5 * l1)) : Int32)) (d_124_73 _ _ _ _) (m_45_ok _ _ _) ?_
      refine zL_ck fun c1 => ?_
      refine zL_bdv (d_124_84 _ _ _ _ _ _ c1 c1) (m_47_ok _ _) fun _ im3 lm3 => ?_
      refine zL_eq (d_124_93 _ _ _) ?_
      exact F_124_98_ok  _ _ _ _ _ _
    · skip
      refine zL_ck fun c2 => ?_
      refine zL_eq (d_124_50 _ _ _ c2 c2) ?_
      exact ih _ _ _ _ _
def m_124 (l1 : Int32) (im : zI) (lm : zJ) : zR :=
    if (if (if l1 < 0 then 0 else if ((im 171 5) - 1) < l1 then 0 else 1 : Int32) = 0 then 1 else 0 : Int32) = 0 then
      zCk (zeInb (((60 + (5 * l1)) : Int32) + 1) 360) <|
      if (im 171 (Int32.toNatClampNeg (((60 + (5 * l1)) : Int32) + 1))) = 4 then
        some ((-10000002), im, lm)
      else
        zBd (m_25  im lm) fun _ im3 lm3 =>
        zBd (m_47  im3 lm3) fun _ im4 lm4 =>
        F_124_44  2000 l1 0 im4 lm4
    else
      some ((-10000001), im, lm)
theorem m_124_ok {B : zeB} (l1 : Int32) (im : zI) (lm : zJ) : zL B 1 (m_124 l1 im lm) (zeRun 124 0 [some (.ref 170), some (.int l1), none, none, none] [] (zk B im lm)) := by
  unfold m_124
  refine zL_bdp (e := (if (if l1 < 0 then 0 else if ((im 171 5) - 1) < l1 then 0 else 1 : Int32) = 0 then 1 else 0 : Int32)) (d_124_0 _ _ _ _) (m_123_ok _ _ _) ?_
  refine zL_if (d_124_5 _ _ _ _ _) (fun h => ?_) (fun h => ?_)
  · skip
    refine zL_bdp (e := ((60 + (5 * l1)) : Int32)) (d_124_11 _ _ _ _) (m_45_ok _ _ _) ?_
    refine zL_ck fun c1 => ?_
    refine zL_if (d_124_19 _ _ _ _ _ c1) (fun h => ?_) (fun h => ?_)
    · skip
      exact zL_ret (d_124_26 _ _ _ _ _)
    · skip
      refine zL_bdv (d_124_29 _ _ _ _) (m_25_ok _ _) fun _ im3 lm3 => ?_
      refine zL_bdv (d_124_33 _ _ _ _) (m_47_ok _ _) fun _ im4 lm4 => ?_
      refine zL_eq (d_124_42 _ _ _) ?_
      exact F_124_44_ok  _ _ _ _ _ _
  · skip
    exact zL_ret (d_124_8 _ _ _ _ _)
/-! X5_append -/
theorem d_125_0 {B : zeB} {im : Nat → Nat → Int32} {lm : Nat → Nat → Int64} (l1 : Int32)  : zeRun 125 0 [some (.ref 166), some (.int l1)] [] (zk B im lm) = if (im 166 0) < 70 then zeRun 125 11 [some (.ref 166), some (.int l1)] [] (zk B im lm) else zeRun 125 9 [some (.ref 166), some (.int l1)] [] (zk B im lm) := ze_if (ok := true) rfl 4 rfl rfl
theorem d_125_11 {B : zeB} {im : Nat → Nat → Int32} {lm : Nat → Nat → Int64} (l1 : Int32) (c0 : zeInb (im 166 0) 70 = true) : zeRun 125 11 [some (.ref 166), some (.int l1)] [] (zk B im lm) = some (some (.int 1), (zk B (zeU2 (zeU2 im 167 (Int32.toNatClampNeg (im 166 0)) (vp_nar .char l1)) 166 0 ((im 166 0) + 1)) lm)) := ze_ret (ok := (zeInb (im 166 0) 70 && true)) rfl 14 rfl (zeA2 c0 rfl)
theorem d_125_9 {B : zeB} {im : Nat → Nat → Int32} {lm : Nat → Nat → Int64} (o0 : Option Value) (o1 : Option Value)  : zeRun 125 9 [o0, o1] [] (zk B im lm) = some (some (.int 0), (zk B im lm)) := ze_ret (ok := true) rfl 2 rfl rfl
def m_125 (l1 : Int32) (im : zI) (lm : zJ) : zR :=
    zCk (if (im 166 0) < 70 then zeInb (im 166 0) 70 else true) <|
    some (if (im 166 0) < 70 then 1 else 0, if (im 166 0) < 70 then (zeU2 (zeU2 im 167 (Int32.toNatClampNeg (im 166 0)) (vp_nar .char l1)) 166 0 ((im 166 0) + 1)) else im, lm)
theorem m_125_ok {B : zeB} (l1 : Int32) (im : zI) (lm : zJ) : zL B 1 (m_125 l1 im lm) (zeRun 125 0 [some (.ref 166), some (.int l1)] [] (zk B im lm)) := by
  unfold m_125
  refine zL_ifm (d_125_0 _) (fun h => ?_) (fun h => ?_)
  · repeat rw [if_pos h]
    refine zL_ck fun c1 => ?_
    exact zL_ret (d_125_11 _ c1)
  · repeat rw [if_neg h]
    refine zL_ckt ?_
    exact zL_ret (d_125_9 _ _)
/-! X7_type -/
theorem d_126_0 {B : zeB} {im : Nat → Nat → Int32} {lm : Nat → Nat → Int64} (l1 : Int32)  : zeRun 126 0 [some (.ref 16), some (.int l1)] [] (zk B im lm) = zeBh 126 8 [some (.ref 16), some (.int l1)] [] (zeRun 125 0 [some (.ref 166), some (.int l1)] [] (zk B im lm)) := ze_call (ok := true) rfl 4 rfl rfl rfl
theorem d_126_8 {B : zeB} {im : Nat → Nat → Int32} {lm : Nat → Nat → Int64} (o1 : Option Value) (s0 : Int32)  : zeRun 126 8 [some (.ref 16), o1] [.int s0] (zk B im lm) = if s0 = 0 then zeRun 126 21 [some (.ref 16), o1] [] (zk B im lm) else zeRun 126 11 [some (.ref 16), o1] [] (zk B im lm) := ze_if (ok := true) rfl 1 rfl rfl
theorem d_126_21 {B : zeB} {im : Nat → Nat → Int32} {lm : Nat → Nat → Int64} (o0 : Option Value) (o1 : Option Value)  : zeRun 126 21 [o0, o1] [] (zk B im lm) = some (some (.int (-10000004)), (zk B im lm)) := ze_ret (ok := true) rfl 2 rfl rfl
theorem d_126_11 {B : zeB} {im : Nat → Nat → Int32} {lm : Nat → Nat → Int64} (o1 : Option Value)  : zeRun 126 11 [some (.ref 16), o1] [] (zk B im lm) = some (some (.int (im 166 0)), (zk B im lm)) := ze_ret (ok := true) rfl 5 rfl rfl
def m_126 (l1 : Int32) (im : zI) (lm : zJ) : zR :=
    zBd (m_125 l1 im lm) fun v1 im1 lm1 =>
    some (if v1 = 0 then (-10000004) else (im1 166 0), im1, lm1)
theorem m_126_ok {B : zeB} (l1 : Int32) (im : zI) (lm : zJ) : zL B 1 (m_126 l1 im lm) (zeRun 126 0 [some (.ref 16), some (.int l1)] [] (zk B im lm)) := by
  unfold m_126
  refine zL_bd (d_126_0 _) (m_125_ok _ _ _) fun v1 im1 lm1 => ?_
  refine zL_ifm (d_126_8 _ _) (fun h => ?_) (fun h => ?_)
  · repeat rw [if_pos h]
    exact zL_ret (d_126_21 _ _)
  · repeat rw [if_neg h]
    exact zL_ret (d_126_11 _)
/-! X8_type -/
theorem d_127_0 {B : zeB} {im : Nat → Nat → Int32} {lm : Nat → Nat → Int64} (l1 : Int32)  : zeRun 127 0 [some (.ref 170), some (.int l1)] [] (zk B im lm) = if (im 170 16) = 70 then zeRun 127 9 [some (.ref 170), some (.int l1)] [] (zk B im lm) else zeRun 127 12 [some (.ref 170), some (.int l1)] [] (zk B im lm) := ze_if (ok := true) rfl 4 rfl rfl
theorem d_127_9 {B : zeB} {im : Nat → Nat → Int32} {lm : Nat → Nat → Int64} (o0 : Option Value) (o1 : Option Value)  : zeRun 127 9 [o0, o1] [] (zk B im lm) = some (some (.int (-10000004)), (zk B im lm)) := ze_ret (ok := true) rfl 2 rfl rfl
theorem d_127_12 {B : zeB} {im : Nat → Nat → Int32} {lm : Nat → Nat → Int64} (l1 : Int32) (c0 : zeInb (im 170 16) 70 = true) : zeRun 127 12 [some (.ref 170), some (.int l1)] [] (zk B im lm) = some (some (.int ((im 170 16) + 1)), (zk B (zeU2 (zeU2 im 184 (Int32.toNatClampNeg (im 170 16)) (vp_nar .char l1)) 170 16 ((im 170 16) + 1)) lm)) := ze_ret (ok := (zeInb (im 170 16) 70 && true)) rfl 15 rfl (zeA2 c0 rfl)
def m_127 (l1 : Int32) (im : zI) (lm : zJ) : zR :=
    zCk (if (im 170 16) = 70 then true else zeInb (im 170 16) 70) <|
    some (if (im 170 16) = 70 then (-10000004) else ((im 170 16) + 1), if (im 170 16) = 70 then im else (zeU2 (zeU2 im 184 (Int32.toNatClampNeg (im 170 16)) (vp_nar .char l1)) 170 16 ((im 170 16) + 1)), lm)
theorem m_127_ok {B : zeB} (l1 : Int32) (im : zI) (lm : zJ) : zL B 1 (m_127 l1 im lm) (zeRun 127 0 [some (.ref 170), some (.int l1)] [] (zk B im lm)) := by
  unfold m_127
  refine zL_ifm (d_127_0 _) (fun h => ?_) (fun h => ?_)
  · repeat rw [if_pos h]
    refine zL_ckt ?_
    exact zL_ret (d_127_9 _ _)
  · repeat rw [if_neg h]
    refine zL_ck fun c1 => ?_
    exact zL_ret (d_127_12 _ c1)
/-! X7_clearText -/
theorem d_128_0 {B : zeB} {im : Nat → Nat → Int32} {lm : Nat → Nat → Int64} (o1 : Option Value)  : zeRun 128 0 [some (.ref 16), o1] [] (zk B im lm) = some (some (.int (im 166 0)), (zk B (zeU2 im 166 0 0) lm)) := ze_ret (ok := true) rfl 10 rfl rfl
def m_128  (im : zI) (lm : zJ) : zR :=
    some ((im 166 0), (zeU2 im 166 0 0), lm)
theorem m_128_ok {B : zeB}  (im : zI) (lm : zJ) : zL B 1 (m_128  im lm) (zeRun 128 0 [some (.ref 16), none] [] (zk B im lm)) := by
  unfold m_128
  exact zL_ret (d_128_0 _)
/-! X8_clearText -/
theorem d_129_0 {B : zeB} {im : Nat → Nat → Int32} {lm : Nat → Nat → Int64} (o1 : Option Value)  : zeRun 129 0 [some (.ref 170), o1] [] (zk B im lm) = some (some (.int (im 170 16)), (zk B (zeU2 im 170 16 0) lm)) := ze_ret (ok := true) rfl 8 rfl rfl
def m_129  (im : zI) (lm : zJ) : zR :=
    some ((im 170 16), (zeU2 im 170 16 0), lm)
theorem m_129_ok {B : zeB}  (im : zI) (lm : zJ) : zL B 1 (m_129  im lm) (zeRun 129 0 [some (.ref 170), none] [] (zk B im lm)) := by
  unfold m_129
  exact zL_ret (d_129_0 _)
/-! X5_signAt -/
theorem d_130_0 {B : zeB} {im : Nat → Nat → Int32} {lm : Nat → Nat → Int64} (l1 : Int32)  : zeRun 130 0 [some (.ref 166), some (.int l1)] [] (zk B im lm) = if l1 < 0 then zeRun 130 21 [some (.ref 166), some (.int l1)] [] (zk B im lm) else zeRun 130 4 [some (.ref 166), some (.int l1)] [] (zk B im lm) := ze_if (ok := true) rfl 2 rfl rfl
theorem d_130_21 {B : zeB} {im : Nat → Nat → Int32} {lm : Nat → Nat → Int64} (o0 : Option Value) (o1 : Option Value)  : zeRun 130 21 [o0, o1] [] (zk B im lm) = some (some (.int 32), (zk B im lm)) := ze_ret (ok := true) rfl 2 rfl rfl
theorem d_130_4 {B : zeB} {im : Nat → Nat → Int32} {lm : Nat → Nat → Int64} (l1 : Int32)  : zeRun 130 4 [some (.ref 166), some (.int l1)] [] (zk B im lm) = if (im 166 0) ≤ l1 then zeRun 130 21 [some (.ref 166), some (.int l1)] [] (zk B im lm) else zeRun 130 12 [some (.ref 166), some (.int l1)] [] (zk B im lm) := ze_if (ok := true) rfl 4 rfl rfl
theorem d_130_12 {B : zeB} {im : Nat → Nat → Int32} {lm : Nat → Nat → Int64} (l1 : Int32) (c0 : zeInb l1 70 = true) (c1 : zeNok FieldType.char (im 167 (Int32.toNatClampNeg l1)) = true) : zeRun 130 12 [some (.ref 166), some (.int l1)] [] (zk B im lm) = some (some (.int (im 167 (Int32.toNatClampNeg l1))), (zk B im lm)) := ze_ret (ok := (zeNok FieldType.char (im 167 (Int32.toNatClampNeg l1)) && (zeInb l1 70 && true))) rfl 6 rfl (zeA2 c1 (zeA2 c0 rfl))
def m_130 (l1 : Int32) (im : zI) (lm : zJ) : zR :=
    zCk (if l1 < 0 then true else if (im 166 0) ≤ l1 then true else zeInb l1 70) <|
    zCk (if l1 < 0 then true else if (im 166 0) ≤ l1 then true else zeNok FieldType.char (im 167 (Int32.toNatClampNeg l1))) <|
    some (if l1 < 0 then 32 else if (im 166 0) ≤ l1 then 32 else (im 167 (Int32.toNatClampNeg l1)), im, lm)
theorem m_130_ok {B : zeB} (l1 : Int32) (im : zI) (lm : zJ) : zL B 1 (m_130 l1 im lm) (zeRun 130 0 [some (.ref 166), some (.int l1)] [] (zk B im lm)) := by
  unfold m_130
  refine zL_ifm (d_130_0 _) (fun h => ?_) (fun h => ?_)
  · repeat rw [if_pos h]
    refine zL_ckt ?_
    refine zL_ckt ?_
    exact zL_ret (d_130_21 _ _)
  · repeat rw [if_neg h]
    refine zL_ifm (d_130_4 _) (fun h => ?_) (fun h => ?_)
    · repeat rw [if_pos h]
      refine zL_ckt ?_
      refine zL_ckt ?_
      exact zL_ret (d_130_21 _ _)
    · repeat rw [if_neg h]
      refine zL_ck fun c1 => ?_
      refine zL_ck fun c2 => ?_
      exact zL_ret (d_130_12 _ c1 c2)
/-! X5_moveLength -/
theorem d_131_0 {B : zeB} {im : Nat → Nat → Int32} {lm : Nat → Nat → Int64} (l1 : Int32)  : zeRun 131 0 [some (.ref 166), some (.int l1)] [] (zk B im lm) = zeBh 131 5 [some (.ref 166), some (.int l1)] [] (zeRun 130 0 [some (.ref 166), some (.int l1)] [] (zk B im lm)) := ze_call (ok := true) rfl 3 rfl rfl rfl
theorem d_131_5 {B : zeB} {im : Nat → Nat → Int32} {lm : Nat → Nat → Int64} (o0 : Option Value) (o1 : Option Value) (s0 : Int32)  : zeRun 131 5 [o0, o1] [.int s0] (zk B im lm) = zeRun 131 (zeSw s0 72 [(43, 70), (45, 70), (98, 66), (110, 70), (112, 64), (119, 68)]) [o0, o1] [] (zk B im lm) := ze_go (ok := true) rfl 1 rfl rfl
theorem d_131_70 {B : zeB} {im : Nat → Nat → Int32} {lm : Nat → Nat → Int64} (o0 : Option Value) (o1 : Option Value)  : zeRun 131 70 [o0, o1] [] (zk B im lm) = some (some (.int 1), (zk B im lm)) := ze_ret (ok := true) rfl 2 rfl rfl
theorem d_131_66 {B : zeB} {im : Nat → Nat → Int32} {lm : Nat → Nat → Int64} (o0 : Option Value) (o1 : Option Value)  : zeRun 131 66 [o0, o1] [] (zk B im lm) = some (some (.int 4), (zk B im lm)) := ze_ret (ok := true) rfl 2 rfl rfl
theorem d_131_64 {B : zeB} {im : Nat → Nat → Int32} {lm : Nat → Nat → Int64} (o0 : Option Value) (o1 : Option Value)  : zeRun 131 64 [o0, o1] [] (zk B im lm) = some (some (.int 3), (zk B im lm)) := ze_ret (ok := true) rfl 2 rfl rfl
theorem d_131_68 {B : zeB} {im : Nat → Nat → Int32} {lm : Nat → Nat → Int64} (o0 : Option Value) (o1 : Option Value)  : zeRun 131 68 [o0, o1] [] (zk B im lm) = some (some (.int 5), (zk B im lm)) := ze_ret (ok := true) rfl 2 rfl rfl
theorem d_131_72 {B : zeB} {im : Nat → Nat → Int32} {lm : Nat → Nat → Int64} (o0 : Option Value) (o1 : Option Value)  : zeRun 131 72 [o0, o1] [] (zk B im lm) = some (some (.int 0), (zk B im lm)) := ze_ret (ok := true) rfl 2 rfl rfl
def m_131 (l1 : Int32) (im : zI) (lm : zJ) : zR :=
    zBd (m_130 l1 im lm) fun v1 im1 lm1 =>
    some (if v1 = 43 then 1 else if v1 = 45 then 1 else if v1 = 98 then 4 else if v1 = 110 then 1 else if v1 = 112 then 3 else if v1 = 119 then 5 else 0, im1, lm1)
theorem m_131_ok {B : zeB} (l1 : Int32) (im : zI) (lm : zJ) : zL B 1 (m_131 l1 im lm) (zeRun 131 0 [some (.ref 166), some (.int l1)] [] (zk B im lm)) := by
  unfold m_131
  refine zL_bd (d_131_0 _) (m_130_ok _ _ _) fun v1 im1 lm1 => ?_
  refine zL_eq (d_131_5 _ _ _) ?_
  refine zL_swm (fun h => ?_) (fun h => ?_)
  · repeat rw [if_pos h]
    exact zL_ret (d_131_70 _ _)
  repeat rw [if_neg h]
  refine zL_swm (fun h => ?_) (fun h => ?_)
  · repeat rw [if_pos h]
    exact zL_ret (d_131_70 _ _)
  repeat rw [if_neg h]
  refine zL_swm (fun h => ?_) (fun h => ?_)
  · repeat rw [if_pos h]
    exact zL_ret (d_131_66 _ _)
  repeat rw [if_neg h]
  refine zL_swm (fun h => ?_) (fun h => ?_)
  · repeat rw [if_pos h]
    exact zL_ret (d_131_70 _ _)
  repeat rw [if_neg h]
  refine zL_swm (fun h => ?_) (fun h => ?_)
  · repeat rw [if_pos h]
    exact zL_ret (d_131_64 _ _)
  repeat rw [if_neg h]
  refine zL_swm (fun h => ?_) (fun h => ?_)
  · repeat rw [if_pos h]
    exact zL_ret (d_131_68 _ _)
  repeat rw [if_neg h]
  refine zL_swd ?_
  exact zL_ret (d_131_72 _ _)
/-! X5_greatestDigit -/
theorem d_132_0 {B : zeB} {im : Nat → Nat → Int32} {lm : Nat → Nat → Int64} (l1 : Int32) (l2 : Int32) (o3 : Option Value)  : zeRun 132 0 [some (.ref 166), some (.int l1), some (.int l2), o3] [] (zk B im lm) = zeBh 132 5 [some (.ref 166), some (.int l1), some (.int l2), o3] [] (zeRun 130 0 [some (.ref 166), some (.int l1)] [] (zk B im lm)) := ze_call (ok := true) rfl 3 rfl rfl rfl
theorem d_132_5 {B : zeB} {im : Nat → Nat → Int32} {lm : Nat → Nat → Int64} (l1 : Int32) (l2 : Int32) (o3 : Option Value) (s0 : Int32)  : zeRun 132 5 [some (.ref 166), some (.int l1), some (.int l2), o3] [.int s0] (zk B im lm) = if s0 = 112 then zeRun 132 12 [some (.ref 166), some (.int l1), some (.int l2), some (.int s0)] [] (zk B im lm) else zeRun 132 22 [some (.ref 166), some (.int l1), some (.int l2), some (.int s0)] [] (zk B im lm) := ze_if (ok := true) rfl 4 rfl rfl
theorem d_132_12 {B : zeB} {im : Nat → Nat → Int32} {lm : Nat → Nat → Int64} (l1 : Int32) (l2 : Int32) (l3 : Int32)  : zeRun 132 12 [some (.ref 166), some (.int l1), some (.int l2), some (.int l3)] [] (zk B im lm) = if l2 = (l1 + 1) then zeRun 132 19 [some (.ref 166), some (.int l1), some (.int l2), some (.int l3)] [] (zk B im lm) else zeRun 132 22 [some (.ref 166), some (.int l1), some (.int l2), some (.int l3)] [] (zk B im lm) := ze_if (ok := true) rfl 5 rfl rfl
theorem d_132_19 {B : zeB} {im : Nat → Nat → Int32} {lm : Nat → Nat → Int64} (o0 : Option Value) (o1 : Option Value) (o2 : Option Value) (o3 : Option Value)  : zeRun 132 19 [o0, o1, o2, o3] [] (zk B im lm) = some (some (.int 50), (zk B im lm)) := ze_ret (ok := true) rfl 2 rfl rfl
theorem d_132_22 {B : zeB} {im : Nat → Nat → Int32} {lm : Nat → Nat → Int64} (l1 : Int32) (l2 : Int32) (l3 : Int32)  : zeRun 132 22 [some (.ref 166), some (.int l1), some (.int l2), some (.int l3)] [] (zk B im lm) = if l3 = 112 then zeRun 132 28 [some (.ref 166), some (.int l1), some (.int l2), some (.int l3)] [] (zk B im lm) else zeRun 132 43 [some (.ref 166), some (.int l1), some (.int l2), some (.int l3)] [] (zk B im lm) := ze_if (ok := true) rfl 3 rfl rfl
theorem d_132_28 {B : zeB} {im : Nat → Nat → Int32} {lm : Nat → Nat → Int64} (l1 : Int32) (l2 : Int32) (l3 : Int32)  : zeRun 132 28 [some (.ref 166), some (.int l1), some (.int l2), some (.int l3)] [] (zk B im lm) = zeBh 132 35 [some (.ref 166), some (.int l1), some (.int l2), some (.int l3)] [] (zeRun 130 0 [some (.ref 166), some (.int (l1 + 1))] [] (zk B im lm)) := ze_call (ok := true) rfl 5 rfl rfl rfl
theorem d_132_35 {B : zeB} {im : Nat → Nat → Int32} {lm : Nat → Nat → Int64} (o0 : Option Value) (l1 : Int32) (l2 : Int32) (l3 : Int32) (s0 : Int32)  : zeRun 132 35 [o0, some (.int l1), some (.int l2), some (.int l3)] [.int s0] (zk B im lm) = if s0 = 50 then zeRun 132 40 [o0, some (.int l1), some (.int l2), some (.int l3)] [] (zk B im lm) else zeRun 132 43 [o0, some (.int l1), some (.int l2), some (.int l3)] [] (zk B im lm) := ze_if (ok := true) rfl 2 rfl rfl
theorem d_132_40 {B : zeB} {im : Nat → Nat → Int32} {lm : Nat → Nat → Int64} (o0 : Option Value) (o1 : Option Value) (o2 : Option Value) (o3 : Option Value)  : zeRun 132 40 [o0, o1, o2, o3] [] (zk B im lm) = some (some (.int 52), (zk B im lm)) := ze_ret (ok := true) rfl 2 rfl rfl
theorem d_132_43 {B : zeB} {im : Nat → Nat → Int32} {lm : Nat → Nat → Int64} (o0 : Option Value) (l1 : Int32) (l2 : Int32) (l3 : Int32)  : zeRun 132 43 [o0, some (.int l1), some (.int l2), some (.int l3)] [] (zk B im lm) = if l3 = 98 then zeRun 132 49 [o0, some (.int l1), some (.int l2), some (.int l3)] [] (zk B im lm) else zeRun 132 59 [o0, some (.int l1), some (.int l2), some (.int l3)] [] (zk B im lm) := ze_if (ok := true) rfl 3 rfl rfl
theorem d_132_49 {B : zeB} {im : Nat → Nat → Int32} {lm : Nat → Nat → Int64} (o0 : Option Value) (l1 : Int32) (l2 : Int32) (o3 : Option Value)  : zeRun 132 49 [o0, some (.int l1), some (.int l2), o3] [] (zk B im lm) = if l2 = (l1 + 1) then zeRun 132 56 [o0, some (.int l1), some (.int l2), o3] [] (zk B im lm) else zeRun 132 59 [o0, some (.int l1), some (.int l2), o3] [] (zk B im lm) := ze_if (ok := true) rfl 5 rfl rfl
theorem d_132_56 {B : zeB} {im : Nat → Nat → Int32} {lm : Nat → Nat → Int64} (o0 : Option Value) (o1 : Option Value) (o2 : Option Value) (o3 : Option Value)  : zeRun 132 56 [o0, o1, o2, o3] [] (zk B im lm) = some (some (.int 53), (zk B im lm)) := ze_ret (ok := true) rfl 2 rfl rfl
theorem d_132_59 {B : zeB} {im : Nat → Nat → Int32} {lm : Nat → Nat → Int64} (o0 : Option Value) (o1 : Option Value) (o2 : Option Value) (o3 : Option Value)  : zeRun 132 59 [o0, o1, o2, o3] [] (zk B im lm) = some (some (.int 57), (zk B im lm)) := ze_ret (ok := true) rfl 2 rfl rfl
def J_132_43  (l1 : Int32) (l2 : Int32) (l3 : Int32) (im : zI) (lm : zJ) : zR :=
    some (if l3 = 98 then if l2 = (l1 + 1) then 53 else 57 else 57, im, lm)
theorem J_132_43_ok {B : zeB} (l1 : Int32) (l2 : Int32) (l3 : Int32) (o0 : Option Value) (im : zI) (lm : zJ) : zL B 1 (J_132_43  l1 l2 l3 im lm) (zeRun 132 43 [o0, some (.int l1), some (.int l2), some (.int l3)] [] (zk B im lm)) := by
  unfold J_132_43
  refine zL_ifm (d_132_43 _ _ _ _) (fun h => ?_) (fun h => ?_)
  · repeat rw [if_pos h]
    refine zL_ifm (d_132_49 _ _ _ _) (fun h => ?_) (fun h => ?_)
    · repeat rw [if_pos h]
      exact zL_ret (d_132_56 _ _ _ _)
    · repeat rw [if_neg h]
      exact zL_ret (d_132_59 _ _ _ _)
  · repeat rw [if_neg h]
    exact zL_ret (d_132_59 _ _ _ _)
def J_132_22  (l1 : Int32) (l2 : Int32) (l3 : Int32) (im : zI) (lm : zJ) : zR :=
    if l3 = 112 then
      zBd (m_130 (l1 + 1) im lm) fun v1 im1 lm1 =>
      if v1 = 50 then
        some (52, im1, lm1)
      else
        J_132_43   l1 l2 l3 im1 lm1
    else
      J_132_43   l1 l2 l3 im lm
theorem J_132_22_ok {B : zeB} (l1 : Int32) (l2 : Int32) (l3 : Int32)  (im : zI) (lm : zJ) : zL B 1 (J_132_22  l1 l2 l3 im lm) (zeRun 132 22 [some (.ref 166), some (.int l1), some (.int l2), some (.int l3)] [] (zk B im lm)) := by
  unfold J_132_22
  refine zL_if (d_132_22 _ _ _) (fun h => ?_) (fun h => ?_)
  · skip
    refine zL_bd (d_132_28 _ _ _) (m_130_ok _ _ _) fun v1 im1 lm1 => ?_
    refine zL_if (d_132_35 _ _ _ _ _) (fun h => ?_) (fun h => ?_)
    · skip
      exact zL_ret (d_132_40 _ _ _ _)
    · skip
      exact J_132_43_ok   _ _ _ _ _ _
  · skip
    exact J_132_43_ok   _ _ _ _ _ _
def m_132 (l1 : Int32) (l2 : Int32) (im : zI) (lm : zJ) : zR :=
    zBd (m_130 l1 im lm) fun v1 im1 lm1 =>
    if v1 = 112 then
      if l2 = (l1 + 1) then
        some (50, im1, lm1)
      else
        J_132_22   l1 l2 v1 im1 lm1
    else
      J_132_22   l1 l2 v1 im1 lm1
theorem m_132_ok {B : zeB} (l1 : Int32) (l2 : Int32) (im : zI) (lm : zJ) : zL B 1 (m_132 l1 l2 im lm) (zeRun 132 0 [some (.ref 166), some (.int l1), some (.int l2), none] [] (zk B im lm)) := by
  unfold m_132
  refine zL_bd (d_132_0 _ _ _) (m_130_ok _ _ _) fun v1 im1 lm1 => ?_
  refine zL_if (d_132_5 _ _ _ _) (fun h => ?_) (fun h => ?_)
  · skip
    refine zL_if (d_132_12 _ _ _) (fun h => ?_) (fun h => ?_)
    · skip
      exact zL_ret (d_132_19 _ _ _ _)
    · skip
      exact J_132_22_ok   _ _ _ _ _
  · skip
    exact J_132_22_ok   _ _ _ _ _
