/-! pure: X8_rejudge, X5_append, X7_type, X8_type, X7_clearText, X8_clearText, X5_signAt, X5_moveLength, X5_greatestDigit, X5_isAllowed, X5_fault, X5_number, X7_doMove -/
/-! X8_rejudge -/
theorem d_124_0 {B : zeB} {im : Nat → Nat → Int32} {lm : Nat → Nat → Int64} (l1 : Int32) (o2 : Option Value) (o3 : Option Value) (o4 : Option Value)  : zeRun 124 0 [some (.ref 170), some (.int l1), o2, o3, o4] [] (zk B im lm) = zeBh 124 5 [some (.ref 170), some (.int l1), o2, o3, o4] [] (zeRun 123 0 [some (.ref 170), some (.int l1)] [] (zk B im lm)) := ze_call (ok := true) rfl 3 rfl rfl rfl
theorem d_124_5 {B : zeB} {im : Nat → Nat → Int32} {lm : Nat → Nat → Int64} (l1 : Int32) (o2 : Option Value) (o3 : Option Value) (o4 : Option Value) (s0 : Int32)  : zeRun 124 5 [some (.ref 170), some (.int l1), o2, o3, o4] [.int s0] (zk B im lm) = if s0 = 0 then zeRun 124 11 [some (.ref 170), some (.int l1), o2, o3, o4] [] (zk B im lm) else zeRun 124 8 [some (.ref 170), some (.int l1), o2, o3, o4] [] (zk B im lm) := ze_if (ok := true) rfl 1 rfl rfl
theorem d_124_11 {B : zeB} {im : Nat → Nat → Int32} {lm : Nat → Nat → Int64} (l1 : Int32) (o2 : Option Value) (o3 : Option Value) (o4 : Option Value)  : zeRun 124 11 [some (.ref 170), some (.int l1), o2, o3, o4] [] (zk B im lm) = zeBh 124 19 [some (.ref 170), some (.int l1), o2, o3, o4] [.ref 171] (zeRun 45 0 [some (.int l1)] [] (zk B im lm)) := ze_call (ok := true) rfl 4 rfl rfl rfl
theorem d_124_19 {B : zeB} {im : Nat → Nat → Int32} {lm : Nat → Nat → Int64} (l1 : Int32) (o2 : Option Value) (o3 : Option Value) (o4 : Option Value) (s1 : Int32) (c0 : zeInb (s1 + 1) 360 = true) : zeRun 124 19 [some (.ref 170), some (.int l1), o2, o3, o4] [.int s1, .ref 171] (zk B im lm) = if (im 171 (Int32.toNatClampNeg (s1 + 1))) = 4 then zeRun 124 26 [some (.ref 170), some (.int l1), o2, o3, o4] [] (zk B im lm) else zeRun 124 29 [some (.ref 170), some (.int l1), o2, o3, o4] [] (zk B im lm) := ze_if (ok := (zeInb (s1 + 1) 360 && true)) rfl 5 rfl (zeA2 c0 rfl)
theorem d_124_26 {B : zeB} {im : Nat → Nat → Int32} {lm : Nat → Nat → Int64} (o0 : Option Value) (o1 : Option Value) (o2 : Option Value) (o3 : Option Value) (o4 : Option Value)  : zeRun 124 26 [o0, o1, o2, o3, o4] [] (zk B im lm) = some (some (.int (-10000002)), (zk B im lm)) := ze_ret (ok := true) rfl 2 rfl rfl
theorem d_124_29 {B : zeB} {im : Nat → Nat → Int32} {lm : Nat → Nat → Int64} (l1 : Int32) (o2 : Option Value) (o3 : Option Value) (o4 : Option Value)  : zeRun 124 29 [some (.ref 170), some (.int l1), o2, o3, o4] [] (zk B im lm) = zeBh 124 33 [some (.ref 170), some (.int l1), o2, o3, o4] [] (zeRun 25 0 [some (.ref 170), none] [] (zk B im lm)) := ze_call (ok := true) rfl 2 rfl rfl rfl
theorem d_124_33 {B : zeB} {im : Nat → Nat → Int32} {lm : Nat → Nat → Int64} (l1 : Int32) (o2 : Option Value) (o3 : Option Value) (o4 : Option Value)  : zeRun 124 33 [some (.ref 170), some (.int l1), o2, o3, o4] [] (zk B im lm) = zeBh 124 42 [some (.ref 170), some (.int l1), some (.ref 183), o3, o4] [] (zeRun 47 0 [some (.ref 170), none, none, none, none, none, none] [] (zk B im lm)) := ze_call (ok := true) rfl 5 rfl rfl rfl
theorem d_124_42 {B : zeB} {im : Nat → Nat → Int32} {lm : Nat → Nat → Int64} (l1 : Int32) (o3 : Option Value) (o4 : Option Value)  : zeRun 124 42 [some (.ref 170), some (.int l1), some (.ref 183), o3, o4] [] (zk B im lm) = zeRun 124 44 [some (.ref 170), some (.int l1), some (.ref 183), some (.int 0), o4] [] (zk B im lm) := ze_go (ok := true) rfl 2 rfl rfl
theorem d_124_8 {B : zeB} {im : Nat → Nat → Int32} {lm : Nat → Nat → Int64} (o0 : Option Value) (o1 : Option Value) (o2 : Option Value) (o3 : Option Value) (o4 : Option Value)  : zeRun 124 8 [o0, o1, o2, o3, o4] [] (zk B im lm) = some (some (.int (-10000001)), (zk B im lm)) := ze_ret (ok := true) rfl 2 rfl rfl
theorem d_124_44 {B : zeB} {im : Nat → Nat → Int32} {lm : Nat → Nat → Int64} (l1 : Int32) (l3 : Int32) (o4 : Option Value)  : zeRun 124 44 [some (.ref 170), some (.int l1), some (.ref 183), some (.int l3), o4] [] (zk B im lm) = if 6 ≤ l3 then zeRun 124 65 [some (.ref 170), some (.int l1), some (.ref 183), some (.int l3), o4] [] (zk B im lm) else zeRun 124 50 [some (.ref 170), some (.int l1), some (.ref 183), some (.int l3), o4] [] (zk B im lm) := ze_if (ok := true) rfl 3 rfl rfl
theorem d_124_65 {B : zeB} {im : Nat → Nat → Int32} {lm : Nat → Nat → Int64} (l1 : Int32) (o3 : Option Value) (o4 : Option Value)  : zeRun 124 65 [some (.ref 170), some (.int l1), some (.ref 183), o3, o4] [] (zk B im lm) = zeBh 124 73 [some (.ref 170), some (.int l1), some (.ref 183), o3, o4] [.ref 171] (zeRun 45 0 [some (.int l1)] [] (zk B im lm)) := ze_call (ok := true) rfl 4 rfl rfl rfl
theorem d_124_73 {B : zeB} {im : Nat → Nat → Int32} {lm : Nat → Nat → Int64} (l1 : Int32) (o3 : Option Value) (o4 : Option Value) (s1 : Int32)  : zeRun 124 73 [some (.ref 170), some (.int l1), some (.ref 183), o3, o4] [.int s1, .ref 171] (zk B im lm) = zeBh 124 84 [some (.ref 170), some (.int l1), some (.ref 183), o3, o4] [.ref 171, .int 1, .int (s1 + 4), .ref 171] (zeRun 45 0 [some (.int l1)] [] (zk B im lm)) := ze_call (ok := true) rfl 7 rfl rfl rfl
theorem d_124_84 {B : zeB} {im : Nat → Nat → Int32} {lm : Nat → Nat → Int64} (o1 : Option Value) (o3 : Option Value) (o4 : Option Value) (s1 : Int32) (s2 : Int32) (s4 : Int32) (c0 : zeInb (s4 + 4) 360 = true) (c1 : zeInb s1 360 = true) : zeRun 124 84 [some (.ref 170), o1, some (.ref 183), o3, o4] [.int s4, .ref 171, .int s2, .int s1, .ref 171] (zk B im lm) = zeBh 124 93 [some (.ref 170), o1, some (.ref 183), o3, o4] [] (zeRun 47 0 [some (.ref 170), none, none, none, none, none, none] [] (zk B (zeU2 im 171 (Int32.toNatClampNeg s1) (s2 - (im 171 (Int32.toNatClampNeg (s4 + 4))))) lm)) := ze_call (ok := (zeInb s1 360 && (zeInb (s4 + 4) 360 && true))) rfl 7 rfl rfl (zeA2 c1 (zeA2 c0 rfl))
theorem d_124_93 {B : zeB} {im : Nat → Nat → Int32} {lm : Nat → Nat → Int64} (o1 : Option Value) (o3 : Option Value) (o4 : Option Value)  : zeRun 124 93 [some (.ref 170), o1, some (.ref 183), o3, o4] [] (zk B im lm) = zeRun 124 98 [some (.ref 170), o1, some (.ref 183), some (.int 0), some (.int 0)] [] (zk B im lm) := ze_go (ok := true) rfl 4 rfl rfl
theorem d_124_50 {B : zeB} {im : Nat → Nat → Int32} {lm : Nat → Nat → Int64} (l1 : Int32) (l3 : Int32) (o4 : Option Value) (c0 : zeInb l3 6 = true) (c1 : zeInb l3 6 = true) : zeRun 124 50 [some (.ref 170), some (.int l1), some (.ref 183), some (.int l3), o4] [] (zk B im lm) = zeRun 124 44 [some (.ref 170), some (.int l1), some (.ref 183), some (.int (l3 + 1)), o4] [] (zk B (zeU2 im 183 (Int32.toNatClampNeg l3) (im 175 (Int32.toNatClampNeg l3))) lm) := ze_go (ok := (zeInb l3 6 && (zeInb l3 6 && true))) rfl 9 rfl (zeA2 c1 (zeA2 c0 rfl))
theorem d_124_98 {B : zeB} {im : Nat → Nat → Int32} {lm : Nat → Nat → Int64} (o1 : Option Value) (l3 : Int32) (l4 : Int32)  : zeRun 124 98 [some (.ref 170), o1, some (.ref 183), some (.int l3), some (.int l4)] [] (zk B im lm) = if 6 ≤ l4 then zeRun 124 133 [some (.ref 170), o1, some (.ref 183), some (.int l3), some (.int l4)] [] (zk B im lm) else zeRun 124 105 [some (.ref 170), o1, some (.ref 183), some (.int l3), some (.int l4)] [] (zk B im lm) := ze_if (ok := true) rfl 3 rfl rfl
theorem d_124_133 {B : zeB} {im : Nat → Nat → Int32} {lm : Nat → Nat → Int64} (o0 : Option Value) (o1 : Option Value) (o2 : Option Value) (l3 : Int32) (o4 : Option Value)  : zeRun 124 133 [o0, o1, o2, some (.int l3), o4] [] (zk B im lm) = some (some (.int l3), (zk B im lm)) := ze_ret (ok := true) rfl 2 rfl rfl
theorem d_124_105 {B : zeB} {im : Nat → Nat → Int32} {lm : Nat → Nat → Int64} (o1 : Option Value) (l3 : Int32) (l4 : Int32) (c0 : zeInb l4 6 = true) (c1 : zeInb l4 6 = true) : zeRun 124 105 [some (.ref 170), o1, some (.ref 183), some (.int l3), some (.int l4)] [] (zk B im lm) = if (im 183 (Int32.toNatClampNeg l4)) = (im 175 (Int32.toNatClampNeg l4)) then zeRun 124 124 [some (.ref 170), o1, some (.ref 183), some (.int l3), some (.int l4)] [.int l3] (zk B im lm) else zeRun 124 120 [some (.ref 170), o1, some (.ref 183), some (.int l3), some (.int l4)] [.int l3] (zk B im lm) := ze_if (ok := (zeInb l4 6 && (zeInb l4 6 && true))) rfl 9 rfl (zeA2 c1 (zeA2 c0 rfl))
theorem d_124_124 {B : zeB} {im : Nat → Nat → Int32} {lm : Nat → Nat → Int64} (o1 : Option Value) (o3 : Option Value) (l4 : Int32) (s0 : Int32)  : zeRun 124 124 [some (.ref 170), o1, some (.ref 183), o3, some (.int l4)] [.int s0] (zk B im lm) = zeRun 124 98 [some (.ref 170), o1, some (.ref 183), some (.int (s0 + 0)), some (.int (l4 + 1))] [] (zk B im lm) := ze_go (ok := true) rfl 5 rfl rfl
theorem d_124_120 {B : zeB} {im : Nat → Nat → Int32} {lm : Nat → Nat → Int64} (o1 : Option Value) (o3 : Option Value) (l4 : Int32) (s0 : Int32)  : zeRun 124 120 [some (.ref 170), o1, some (.ref 183), o3, some (.int l4)] [.int s0] (zk B im lm) = zeRun 124 98 [some (.ref 170), o1, some (.ref 183), some (.int (s0 + 1)), some (.int (l4 + 1))] [] (zk B im lm) := ze_go (ok := true) rfl 6 rfl rfl
def F_124_98  : Nat → Int32 → Int32 → zI → zJ → zR
  | 0, _, _, _, _ => none
  | n + 1, l3, l4, im, lm =>
    if 6 ≤ l4 then
      some (l3, im, lm)
    else
      zCk (zeInb l4 6) <|
      F_124_98  n (if (im 183 (Int32.toNatClampNeg l4)) = (im 175 (Int32.toNatClampNeg l4)) then (l3 + 0) else (l3 + 1)) (l4 + 1) im lm
theorem F_124_98_ok {B : zeB} : ∀ (n : Nat) (l3 : Int32) (l4 : Int32) (o1 : Option Value) (im : zI) (lm : zJ), zL B 1 (F_124_98  n l3 l4 im lm) (zeRun 124 98 [some (.ref 170), o1, some (.ref 183), some (.int l3), some (.int l4)] [] (zk B im lm)) := by
  intro n
  induction n with
  | zero => intros; exact zL_none
  | succ n ih =>
    intro l3 l4 o1 im lm
    unfold F_124_98
    refine zL_if (d_124_98 _ _ _) (fun h => ?_) (fun h => ?_)
    · skip
      exact zL_ret (d_124_133 _ _ _ _ _)
    · skip
      refine zL_ck fun c1 => ?_
      refine zL_ifm (d_124_105 _ _ _ c1 c1) (fun h => ?_) (fun h => ?_)
      · repeat rw [if_pos h]
        refine zL_eq (d_124_124 _ _ _ _) ?_
        exact ih _ _ _ _ _
      · repeat rw [if_neg h]
        refine zL_eq (d_124_120 _ _ _ _) ?_
        exact ih _ _ _ _ _
def F_124_44  : Nat → Int32 → Int32 → zI → zJ → zR
  | 0, _, _, _, _ => none
  | n + 1, l1, l3, im, lm =>
    if 6 ≤ l3 then
      zCk (zeInb (((60 + (5 * l1)) : Int32) + 4) 360) <|
      zBd (m_47  (zeU2 im 171 (Int32.toNatClampNeg (((60 + (5 * l1)) : Int32) + 4)) (1 - (im 171 (Int32.toNatClampNeg (((60 + (5 * l1)) : Int32) + 4))))) lm) fun _ im3 lm3 =>
      F_124_98  2000 0 0 im3 lm3
    else
      zCk (zeInb l3 6) <|
      F_124_44  n l1 (l3 + 1) (zeU2 im 183 (Int32.toNatClampNeg l3) (im 175 (Int32.toNatClampNeg l3))) lm
theorem F_124_44_ok {B : zeB} : ∀ (n : Nat) (l1 : Int32) (l3 : Int32) (o4 : Option Value) (im : zI) (lm : zJ), zL B 1 (F_124_44  n l1 l3 im lm) (zeRun 124 44 [some (.ref 170), some (.int l1), some (.ref 183), some (.int l3), o4] [] (zk B im lm)) := by
  intro n
  induction n with
  | zero => intros; exact zL_none
  | succ n ih =>
    intro l1 l3 o4 im lm
    unfold F_124_44
    refine zL_if (d_124_44 _ _ _) (fun h => ?_) (fun h => ?_)
    · skip
      refine zL_bdp (e := ((60 + (5 * l1)) : Int32)) (d_124_65 _ _ _) (m_45_ok _ _ _) ?_
      refine zL_bdp (e := ((60 + (5 * l1)) : Int32)) (d_124_73 _ _ _ _) (m_45_ok _ _ _) ?_
      refine zL_ck fun c1 => ?_
      refine zL_bdv (d_124_84 _ _ _ _ _ _ c1 c1) (m_47_ok _ _) fun _ im3 lm3 => ?_
      refine zL_eq (d_124_93 _ _ _) ?_
      exact F_124_98_ok  _ _ _ _ _ _
    · skip
      refine zL_ck fun c2 => ?_
      refine zL_eq (d_124_50 _ _ _ c2 c2) ?_
      exact ih _ _ _ _ _
def m_124 (l1 : Int32) (im : zI) (lm : zJ) : zR :=
    if (if (if l1 < 0 then 0 else if ((im 171 5) - 1) < l1 then 0 else 1 : Int32) = 0 then 1 else 0 : Int32) = 0 then
      zCk (zeInb (((60 + (5 * l1)) : Int32) + 1) 360) <|
      if (im 171 (Int32.toNatClampNeg (((60 + (5 * l1)) : Int32) + 1))) = 4 then
        some ((-10000002), im, lm)
      else
        zBd (m_25  im lm) fun _ im3 lm3 =>
        zBd (m_47  im3 lm3) fun _ im4 lm4 =>
        F_124_44  2000 l1 0 im4 lm4
    else
      some ((-10000001), im, lm)
theorem m_124_ok {B : zeB} (l1 : Int32) (im : zI) (lm : zJ) : zL B 1 (m_124 l1 im lm) (zeRun 124 0 [some (.ref 170), some (.int l1), none, none, none] [] (zk B im lm)) := by
  unfold m_124
  refine zL_bdp (e := (if (if l1 < 0 then 0 else if ((im 171 5) - 1) < l1 then 0 else 1 : Int32) = 0 then 1 else 0 : Int32)) (d_124_0 _ _ _ _) (m_123_ok _ _ _) ?_
  refine zL_if (d_124_5 _ _ _ _ _) (fun h => ?_) (fun h => ?_)
  · skip
    refine zL_bdp (e := ((60 + (5 * l1)) : Int32)) (d_124_11 _ _ _ _) (m_45_ok _ _ _) ?_
    refine zL_ck fun c1 => ?_
    refine zL_if (d_124_19 _ _ _ _ _ c1) (fun h => ?_) (fun h => ?_)
    · skip
      exact zL_ret (d_124_26 _ _ _ _ _)
    · skip
      refine zL_bdv (d_124_29 _ _ _ _) (m_25_ok _ _) fun _ im3 lm3 => ?_
      refine zL_bdv (d_124_33 _ _ _ _) (m_47_ok _ _) fun _ im4 lm4 => ?_
      refine zL_eq (d_124_42 _ _ _) ?_
      exact F_124_44_ok  _ _ _ _ _ _
  · skip
    exact zL_ret (d_124_8 _ _ _ _ _)
/-! X5_append -/
theorem d_125_0 {B : zeB} {im : Nat → Nat → Int32} {lm : Nat → Nat → Int64} (l1 : Int32)  : zeRun 125 0 [some (.ref 166), some (.int l1)] [] (zk B im lm) = if (im 166 0) < 70 then zeRun 125 11 [some (.ref 166), some (.int l1)] [] (zk B im lm) else zeRun 125 9 [some (.ref 166), some (.int l1)] [] (zk B im lm) := ze_if (ok := true) rfl 4 rfl rfl
theorem d_125_11 {B : zeB} {im : Nat → Nat → Int32} {lm : Nat → Nat → Int64} (l1 : Int32) (c0 : zeInb (im 166 0) 70 = true) : zeRun 125 11 [some (.ref 166), some (.int l1)] [] (zk B im lm) = some (some (.int 1), (zk B (zeU2 (zeU2 im 167 (Int32.toNatClampNeg (im 166 0)) (vp_nar .char l1)) 166 0 ((im 166 0) + 1)) lm)) := ze_ret (ok := (zeInb (im 166 0) 70 && true)) rfl 14 rfl (zeA2 c0 rfl)
theorem d_125_9 {B : zeB} {im : Nat → Nat → Int32} {lm : Nat → Nat → Int64} (o0 : Option Value) (o1 : Option Value)  : zeRun 125 9 [o0, o1] [] (zk B im lm) = some (some (.int 0), (zk B im lm)) := ze_ret (ok := true) rfl 2 rfl rfl
def m_125 (l1 : Int32) (im : zI) (lm : zJ) : zR :=
    zCk (if (im 166 0) < 70 then zeInb (im 166 0) 70 else true) <|
    some (if (im 166 0) < 70 then 1 else 0, if (im 166 0) < 70 then (zeU2 (zeU2 im 167 (Int32.toNatClampNeg (im 166 0)) (vp_nar .char l1)) 166 0 ((im 166 0) + 1)) else im, lm)
theorem m_125_ok {B : zeB} (l1 : Int32) (im : zI) (lm : zJ) : zL B 1 (m_125 l1 im lm) (zeRun 125 0 [some (.ref 166), some (.int l1)] [] (zk B im lm)) := by
  unfold m_125
  refine zL_ifm (d_125_0 _) (fun h => ?_) (fun h => ?_)
  · repeat rw [if_pos h]
    refine zL_ck fun c1 => ?_
    exact zL_ret (d_125_11 _ c1)
  · repeat rw [if_neg h]
    refine zL_ckt ?_
    exact zL_ret (d_125_9 _ _)
/-! X7_type -/
theorem d_126_0 {B : zeB} {im : Nat → Nat → Int32} {lm : Nat → Nat → Int64} (l1 : Int32)  : zeRun 126 0 [some (.ref 16), some (.int l1)] [] (zk B im lm) = zeBh 126 8 [some (.ref 16), some (.int l1)] [] (zeRun 125 0 [some (.ref 166), some (.int l1)] [] (zk B im lm)) := ze_call (ok := true) rfl 4 rfl rfl rfl
theorem d_126_8 {B : zeB} {im : Nat → Nat → Int32} {lm : Nat → Nat → Int64} (o1 : Option Value) (s0 : Int32)  : zeRun 126 8 [some (.ref 16), o1] [.int s0] (zk B im lm) = if s0 = 0 then zeRun 126 21 [some (.ref 16), o1] [] (zk B im lm) else zeRun 126 11 [some (.ref 16), o1] [] (zk B im lm) := ze_if (ok := true) rfl 1 rfl rfl
theorem d_126_21 {B : zeB} {im : Nat → Nat → Int32} {lm : Nat → Nat → Int64} (o0 : Option Value) (o1 : Option Value)  : zeRun 126 21 [o0, o1] [] (zk B im lm) = some (some (.int (-10000004)), (zk B im lm)) := ze_ret (ok := true) rfl 2 rfl rfl
theorem d_126_11 {B : zeB} {im : Nat → Nat → Int32} {lm : Nat → Nat → Int64} (o1 : Option Value)  : zeRun 126 11 [some (.ref 16), o1] [] (zk B im lm) = some (some (.int (im 166 0)), (zk B im lm)) := ze_ret (ok := true) rfl 5 rfl rfl
def m_126 (l1 : Int32) (im : zI) (lm : zJ) : zR :=
    zBd (m_125 l1 im lm) fun v1 im1 lm1 =>
    some (if v1 = 0 then (-10000004) else (im1 166 0), im1, lm1)
theorem m_126_ok {B : zeB} (l1 : Int32) (im : zI) (lm : zJ) : zL B 1 (m_126 l1 im lm) (zeRun 126 0 [some (.ref 16), some (.int l1)] [] (zk B im lm)) := by
  unfold m_126
  refine zL_bd (d_126_0 _) (m_125_ok _ _ _) fun v1 im1 lm1 => ?_
  refine zL_ifm (d_126_8 _ _) (fun h => ?_) (fun h => ?_)
  · repeat rw [if_pos h]
    exact zL_ret (d_126_21 _ _)
  · repeat rw [if_neg h]
    exact zL_ret (d_126_11 _)
/-! X8_type -/
theorem d_127_0 {B : zeB} {im : Nat → Nat → Int32} {lm : Nat → Nat → Int64} (l1 : Int32)  : zeRun 127 0 [some (.ref 170), some (.int l1)] [] (zk B im lm) = if (im 170 16) = 70 then zeRun 127 9 [some (.ref 170), some (.int l1)] [] (zk B im lm) else zeRun 127 12 [some (.ref 170), some (.int l1)] [] (zk B im lm) := ze_if (ok := true) rfl 4 rfl rfl
theorem d_127_9 {B : zeB} {im : Nat → Nat → Int32} {lm : Nat → Nat → Int64} (o0 : Option Value) (o1 : Option Value)  : zeRun 127 9 [o0, o1] [] (zk B im lm) = some (some (.int (-10000004)), (zk B im lm)) := ze_ret (ok := true) rfl 2 rfl rfl
theorem d_127_12 {B : zeB} {im : Nat → Nat → Int32} {lm : Nat → Nat → Int64} (l1 : Int32) (c0 : zeInb (im 170 16) 70 = true) : zeRun 127 12 [some (.ref 170), some (.int l1)] [] (zk B im lm) = some (some (.int ((im 170 16) + 1)), (zk B (zeU2 (zeU2 im 184 (Int32.toNatClampNeg (im 170 16)) (vp_nar .char l1)) 170 16 ((im 170 16) + 1)) lm)) := ze_ret (ok := (zeInb (im 170 16) 70 && true)) rfl 15 rfl (zeA2 c0 rfl)
def m_127 (l1 : Int32) (im : zI) (lm : zJ) : zR :=
    zCk (if (im 170 16) = 70 then true else zeInb (im 170 16) 70) <|
    some (if (im 170 16) = 70 then (-10000004) else ((im 170 16) + 1), if (im 170 16) = 70 then im else (zeU2 (zeU2 im 184 (Int32.toNatClampNeg (im 170 16)) (vp_nar .char l1)) 170 16 ((im 170 16) + 1)), lm)
theorem m_127_ok {B : zeB} (l1 : Int32) (im : zI) (lm : zJ) : zL B 1 (m_127 l1 im lm) (zeRun 127 0 [some (.ref 170), some (.int l1)] [] (zk B im lm)) := by
  unfold m_127
  refine zL_ifm (d_127_0 _) (fun h => ?_) (fun h => ?_)
  · repeat rw [if_pos h]
    refine zL_ckt ?_
    exact zL_ret (d_127_9 _ _)
  · repeat rw [if_neg h]
    refine zL_ck fun c1 => ?_
    exact zL_ret (d_127_12 _ c1)
/-! X7_clearText -/
theorem d_128_0 {B : zeB} {im : Nat → Nat → Int32} {lm : Nat → Nat → Int64} (o1 : Option Value)  : zeRun 128 0 [some (.ref 16), o1] [] (zk B im lm) = some (some (.int (im 166 0)), (zk B (zeU2 im 166 0 0) lm)) := ze_ret (ok := true) rfl 10 rfl rfl
def m_128  (im : zI) (lm : zJ) : zR :=
    some ((im 166 0), (zeU2 im 166 0 0), lm)
theorem m_128_ok {B : zeB}  (im : zI) (lm : zJ) : zL B 1 (m_128  im lm) (zeRun 128 0 [some (.ref 16), none] [] (zk B im lm)) := by
  unfold m_128
  exact zL_ret (d_128_0 _)
/-! X8_clearText -/
theorem d_129_0 {B : zeB} {im : Nat → Nat → Int32} {lm : Nat → Nat → Int64} (o1 : Option Value)  : zeRun 129 0 [some (.ref 170), o1] [] (zk B im lm) = some (some (.int (im 170 16)), (zk B (zeU2 im 170 16 0) lm)) := ze_ret (ok := true) rfl 8 rfl rfl
def m_129  (im : zI) (lm : zJ) : zR :=
    some ((im 170 16), (zeU2 im 170 16 0), lm)
theorem m_129_ok {B : zeB}  (im : zI) (lm : zJ) : zL B 1 (m_129  im lm) (zeRun 129 0 [some (.ref 170), none] [] (zk B im lm)) := by
  unfold m_129
  exact zL_ret (d_129_0 _)
/-! X5_signAt -/
theorem d_130_0 {B : zeB} {im : Nat → Nat → Int32} {lm : Nat → Nat → Int64} (l1 : Int32)  : zeRun 130 0 [some (.ref 166), some (.int l1)] [] (zk B im lm) = if l1 < 0 then zeRun 130 21 [some (.ref 166), some (.int l1)] [] (zk B im lm) else zeRun 130 4 [some (.ref 166), some (.int l1)] [] (zk B im lm) := ze_if (ok := true) rfl 2 rfl rfl
theorem d_130_21 {B : zeB} {im : Nat → Nat → Int32} {lm : Nat → Nat → Int64} (o0 : Option Value) (o1 : Option Value)  : zeRun 130 21 [o0, o1] [] (zk B im lm) = some (some (.int 32), (zk B im lm)) := ze_ret (ok := true) rfl 2 rfl rfl
theorem d_130_4 {B : zeB} {im : Nat → Nat → Int32} {lm : Nat → Nat → Int64} (l1 : Int32)  : zeRun 130 4 [some (.ref 166), some (.int l1)] [] (zk B im lm) = if (im 166 0) ≤ l1 then zeRun 130 21 [some (.ref 166), some (.int l1)] [] (zk B im lm) else zeRun 130 12 [some (.ref 166), some (.int l1)] [] (zk B im lm) := ze_if (ok := true) rfl 4 rfl rfl
theorem d_130_12 {B : zeB} {im : Nat → Nat → Int32} {lm : Nat → Nat → Int64} (l1 : Int32) (c0 : zeInb l1 70 = true) (c1 : zeNok FieldType.char (im 167 (Int32.toNatClampNeg l1)) = true) : zeRun 130 12 [some (.ref 166), some (.int l1)] [] (zk B im lm) = some (some (.int (im 167 (Int32.toNatClampNeg l1))), (zk B im lm)) := ze_ret (ok := (zeNok FieldType.char (im 167 (Int32.toNatClampNeg l1)) && (zeInb l1 70 && true))) rfl 6 rfl (zeA2 c1 (zeA2 c0 rfl))
def m_130 (l1 : Int32) (im : zI) (lm : zJ) : zR :=
    zCk (if l1 < 0 then true else if (im 166 0) ≤ l1 then true else zeInb l1 70) <|
    zCk (if l1 < 0 then true else if (im 166 0) ≤ l1 then true else zeNok FieldType.char (im 167 (Int32.toNatClampNeg l1))) <|
    some (if l1 < 0 then 32 else if (im 166 0) ≤ l1 then 32 else (im 167 (Int32.toNatClampNeg l1)), im, lm)
theorem m_130_ok {B : zeB} (l1 : Int32) (im : zI) (lm : zJ) : zL B 1 (m_130 l1 im lm) (zeRun 130 0 [some (.ref 166), some (.int l1)] [] (zk B im lm)) := by
  unfold m_130
  refine zL_ifm (d_130_0 _) (fun h => ?_) (fun h => ?_)
  · repeat rw [if_pos h]
    refine zL_ckt ?_
    refine zL_ckt ?_
    exact zL_ret (d_130_21 _ _)
  · repeat rw [if_neg h]
    refine zL_ifm (d_130_4 _) (fun h => ?_) (fun h => ?_)
    · repeat rw [if_pos h]
      refine zL_ckt ?_
      refine zL_ckt ?_
      exact zL_ret (d_130_21 _ _)
    · repeat rw [if_neg h]
      refine zL_ck fun c1 => ?_
      refine zL_ck fun c2 => ?_
      exact zL_ret (d_130_12 _ c1 c2)
/-! X5_moveLength -/
theorem d_131_0 {B : zeB} {im : Nat → Nat → Int32} {lm : Nat → Nat → Int64} (l1 : Int32)  : zeRun 131 0 [some (.ref 166), some (.int l1)] [] (zk B im lm) = zeBh 131 5 [some (.ref 166), some (.int l1)] [] (zeRun 130 0 [some (.ref 166), some (.int l1)] [] (zk B im lm)) := ze_call (ok := true) rfl 3 rfl rfl rfl
theorem d_131_5 {B : zeB} {im : Nat → Nat → Int32} {lm : Nat → Nat → Int64} (o0 : Option Value) (o1 : Option Value) (s0 : Int32)  : zeRun 131 5 [o0, o1] [.int s0] (zk B im lm) = zeRun 131 (zeSw s0 72 [(43, 70), (45, 70), (98, 66), (110, 70), (112, 64), (119, 68)]) [o0, o1] [] (zk B im lm) := ze_go (ok := true) rfl 1 rfl rfl
theorem d_131_70 {B : zeB} {im : Nat → Nat → Int32} {lm : Nat → Nat → Int64} (o0 : Option Value) (o1 : Option Value)  : zeRun 131 70 [o0, o1] [] (zk B im lm) = some (some (.int 1), (zk B im lm)) := ze_ret (ok := true) rfl 2 rfl rfl
theorem d_131_66 {B : zeB} {im : Nat → Nat → Int32} {lm : Nat → Nat → Int64} (o0 : Option Value) (o1 : Option Value)  : zeRun 131 66 [o0, o1] [] (zk B im lm) = some (some (.int 4), (zk B im lm)) := ze_ret (ok := true) rfl 2 rfl rfl
theorem d_131_64 {B : zeB} {im : Nat → Nat → Int32} {lm : Nat → Nat → Int64} (o0 : Option Value) (o1 : Option Value)  : zeRun 131 64 [o0, o1] [] (zk B im lm) = some (some (.int 3), (zk B im lm)) := ze_ret (ok := true) rfl 2 rfl rfl
theorem d_131_68 {B : zeB} {im : Nat → Nat → Int32} {lm : Nat → Nat → Int64} (o0 : Option Value) (o1 : Option Value)  : zeRun 131 68 [o0, o1] [] (zk B im lm) = some (some (.int 5), (zk B im lm)) := ze_ret (ok := true) rfl 2 rfl rfl
theorem d_131_72 {B : zeB} {im : Nat → Nat → Int32} {lm : Nat → Nat → Int64} (o0 : Option Value) (o1 : Option Value)  : zeRun 131 72 [o0, o1] [] (zk B im lm) = some (some (.int 0), (zk B im lm)) := ze_ret (ok := true) rfl 2 rfl rfl
def m_131 (l1 : Int32) (im : zI) (lm : zJ) : zR :=
    zBd (m_130 l1 im lm) fun v1 im1 lm1 =>
    some (if v1 = 43 then 1 else if v1 = 45 then 1 else if v1 = 98 then 4 else if v1 = 110 then 1 else if v1 = 112 then 3 else if v1 = 119 then 5 else 0, im1, lm1)
theorem m_131_ok {B : zeB} (l1 : Int32) (im : zI) (lm : zJ) : zL B 1 (m_131 l1 im lm) (zeRun 131 0 [some (.ref 166), some (.int l1)] [] (zk B im lm)) := by
  unfold m_131
  refine zL_bd (d_131_0 _) (m_130_ok _ _ _) fun v1 im1 lm1 => ?_
  refine zL_eq (d_131_5 _ _ _) ?_
  refine zL_swm (fun h => ?_) (fun h => ?_)
  · repeat rw [if_pos h]
    exact zL_ret (d_131_70 _ _)
  repeat rw [if_neg h]
  refine zL_swm (fun h => ?_) (fun h => ?_)
  · repeat rw [if_pos h]
    exact zL_ret (d_131_70 _ _)
  repeat rw [if_neg h]
  refine zL_swm (fun h => ?_) (fun h => ?_)
  · repeat rw [if_pos h]
    exact zL_ret (d_131_66 _ _)
  repeat rw [if_neg h]
  refine zL_swm (fun h => ?_) (fun h => ?_)
  · repeat rw [if_pos h]
    exact zL_ret (d_131_70 _ _)
  repeat rw [if_neg h]
  refine zL_swm (fun h => ?_) (fun h => ?_)
  · repeat rw [if_pos h]
    exact zL_ret (d_131_64 _ _)
  repeat rw [if_neg h]
  refine zL_swm (fun h => ?_) (fun h => ?_)
  · repeat rw [if_pos h]
    exact zL_ret (d_131_68 _ _)
  repeat rw [if_neg h]
  refine zL_swd ?_
  exact zL_ret (d_131_72 _ _)
/-! X5_greatestDigit -/
theorem d_132_0 {B : zeB} {im : Nat → Nat → Int32} {lm : Nat → Nat → Int64} (l1 : Int32) (l2 : Int32) (o3 : Option Value)  : zeRun 132 0 [some (.ref 166), some (.int l1), some (.int l2), o3] [] (zk B im lm) = zeBh 132 5 [some (.ref 166), some (.int l1), some (.int l2), o3] [] (zeRun 130 0 [some (.ref 166), some (.int l1)] [] (zk B im lm)) := ze_call (ok := true) rfl 3 rfl rfl rfl
theorem d_132_5 {B : zeB} {im : Nat → Nat → Int32} {lm : Nat → Nat → Int64} (l1 : Int32) (l2 : Int32) (o3 : Option Value) (s0 : Int32)  : zeRun 132 5 [some (.ref 166), some (.int l1), some (.int l2), o3] [.int s0] (zk B im lm) = if s0 = 112 then zeRun 132 12 [some (.ref 166), some (.int l1), some (.int l2), some (.int s0)] [] (zk B im lm) else zeRun 132 22 [some (.ref 166), some (.int l1), some (.int l2), some (.int s0)] [] (zk B im lm) := ze_if (ok := true) rfl 4 rfl rfl
theorem d_132_12 {B : zeB} {im : Nat → Nat → Int32} {lm : Nat → Nat → Int64} (l1 : Int32) (l2 : Int32) (l3 : Int32)  : zeRun 132 12 [some (.ref 166), some (.int l1), some (.int l2), some (.int l3)] [] (zk B im lm) = if l2 = (l1 + 1) then zeRun 132 19 [some (.ref 166), some (.int l1), some (.int l2), some (.int l3)] [] (zk B im lm) else zeRun 132 22 [some (.ref 166), some (.int l1), some (.int l2), some (.int l3)] [] (zk B im lm) := ze_if (ok := true) rfl 5 rfl rfl
theorem d_132_19 {B : zeB} {im : Nat → Nat → Int32} {lm : Nat → Nat → Int64} (o0 : Option Value) (o1 : Option Value) (o2 : Option Value) (o3 : Option Value)  : zeRun 132 19 [o0, o1, o2, o3] [] (zk B im lm) = some (some (.int 50), (zk B im lm)) := ze_ret (ok := true) rfl 2 rfl rfl
theorem d_132_22 {B : zeB} {im : Nat → Nat → Int32} {lm : Nat → Nat → Int64} (l1 : Int32) (l2 : Int32) (l3 : Int32)  : zeRun 132 22 [some (.ref 166), some (.int l1), some (.int l2), some (.int l3)] [] (zk B im lm) = if l3 = 112 then zeRun 132 28 [some (.ref 166), some (.int l1), some (.int l2), some (.int l3)] [] (zk B im lm) else zeRun 132 43 [some (.ref 166), some (.int l1), some (.int l2), some (.int l3)] [] (zk B im lm) := ze_if (ok := true) rfl 3 rfl rfl
theorem d_132_28 {B : zeB} {im : Nat → Nat → Int32} {lm : Nat → Nat → Int64} (l1 : Int32) (l2 : Int32) (l3 : Int32)  : zeRun 132 28 [some (.ref 166), some (.int l1), some (.int l2), some (.int l3)] [] (zk B im lm) = zeBh 132 35 [some (.ref 166), some (.int l1), some (.int l2), some (.int l3)] [] (zeRun 130 0 [some (.ref 166), some (.int (l1 + 1))] [] (zk B im lm)) := ze_call (ok := true) rfl 5 rfl rfl rfl
theorem d_132_35 {B : zeB} {im : Nat → Nat → Int32} {lm : Nat → Nat → Int64} (o0 : Option Value) (l1 : Int32) (l2 : Int32) (l3 : Int32) (s0 : Int32)  : zeRun 132 35 [o0, some (.int l1), some (.int l2), some (.int l3)] [.int s0] (zk B im lm) = if s0 = 50 then zeRun 132 40 [o0, some (.int l1), some (.int l2), some (.int l3)] [] (zk B im lm) else zeRun 132 43 [o0, some (.int l1), some (.int l2), some (.int l3)] [] (zk B im lm) := ze_if (ok := true) rfl 2 rfl rfl
theorem d_132_40 {B : zeB} {im : Nat → Nat → Int32} {lm : Nat → Nat → Int64} (o0 : Option Value) (o1 : Option Value) (o2 : Option Value) (o3 : Option Value)  : zeRun 132 40 [o0, o1, o2, o3] [] (zk B im lm) = some (some (.int 52), (zk B im lm)) := ze_ret (ok := true) rfl 2 rfl rfl
theorem d_132_43 {B : zeB} {im : Nat → Nat → Int32} {lm : Nat → Nat → Int64} (o0 : Option Value) (l1 : Int32) (l2 : Int32) (l3 : Int32)  : zeRun 132 43 [o0, some (.int l1), some (.int l2), some (.int l3)] [] (zk B im lm) = if l3 = 98 then zeRun 132 49 [o0, some (.int l1), some (.int l2), some (.int l3)] [] (zk B im lm) else zeRun 132 59 [o0, some (.int l1), some (.int l2), some (.int l3)] [] (zk B im lm) := ze_if (ok := true) rfl 3 rfl rfl
theorem d_132_49 {B : zeB} {im : Nat → Nat → Int32} {lm : Nat → Nat → Int64} (o0 : Option Value) (l1 : Int32) (l2 : Int32) (o3 : Option Value)  : zeRun 132 49 [o0, some (.int l1), some (.int l2), o3] [] (zk B im lm) = if l2 = (l1 + 1) then zeRun 132 56 [o0, some (.int l1), some (.int l2), o3] [] (zk B im lm) else zeRun 132 59 [o0, some (.int l1), some (.int l2), o3] [] (zk B im lm) := ze_if (ok := true) rfl 5 rfl rfl
theorem d_132_56 {B : zeB} {im : Nat → Nat → Int32} {lm : Nat → Nat → Int64} (o0 : Option Value) (o1 : Option Value) (o2 : Option Value) (o3 : Option Value)  : zeRun 132 56 [o0, o1, o2, o3] [] (zk B im lm) = some (some (.int 53), (zk B im lm)) := ze_ret (ok := true) rfl 2 rfl rfl
theorem d_132_59 {B : zeB} {im : Nat → Nat → Int32} {lm : Nat → Nat → Int64} (o0 : Option Value) (o1 : Option Value) (o2 : Option Value) (o3 : Option Value)  : zeRun 132 59 [o0, o1, o2, o3] [] (zk B im lm) = some (some (.int 57), (zk B im lm)) := ze_ret (ok := true) rfl 2 rfl rfl
def J_132_43  (l1 : Int32) (l2 : Int32) (l3 : Int32) (im : zI) (lm : zJ) : zR :=
    some (if l3 = 98 then if l2 = (l1 + 1) then 53 else 57 else 57, im, lm)
theorem J_132_43_ok {B : zeB} (l1 : Int32) (l2 : Int32) (l3 : Int32) (o0 : Option Value) (im : zI) (lm : zJ) : zL B 1 (J_132_43  l1 l2 l3 im lm) (zeRun 132 43 [o0, some (.int l1), some (.int l2), some (.int l3)] [] (zk B im lm)) := by
  unfold J_132_43
  refine zL_ifm (d_132_43 _ _ _ _) (fun h => ?_) (fun h => ?_)
  · repeat rw [if_pos h]
    refine zL_ifm (d_132_49 _ _ _ _) (fun h => ?_) (fun h => ?_)
    · repeat rw [if_pos h]
      exact zL_ret (d_132_56 _ _ _ _)
    · repeat rw [if_neg h]
      exact zL_ret (d_132_59 _ _ _ _)
  · repeat rw [if_neg h]
    exact zL_ret (d_132_59 _ _ _ _)
def J_132_22  (l1 : Int32) (l2 : Int32) (l3 : Int32) (im : zI) (lm : zJ) : zR :=
    if l3 = 112 then
      zBd (m_130 (l1 + 1) im lm) fun v1 im1 lm1 =>
      if v1 = 50 then
        some (52, im1, lm1)
      else
        J_132_43   l1 l2 l3 im1 lm1
    else
      J_132_43   l1 l2 l3 im lm
theorem J_132_22_ok {B : zeB} (l1 : Int32) (l2 : Int32) (l3 : Int32)  (im : zI) (lm : zJ) : zL B 1 (J_132_22  l1 l2 l3 im lm) (zeRun 132 22 [some (.ref 166), some (.int l1), some (.int l2), some (.int l3)] [] (zk B im lm)) := by
  unfold J_132_22
  refine zL_if (d_132_22 _ _ _) (fun h => ?_) (fun h => ?_)
  · skip
    refine zL_bd (d_132_28 _ _ _) (m_130_ok _ _ _) fun v1 im1 lm1 => ?_
    refine zL_if (d_132_35 _ _ _ _ _) (fun h => ?_) (fun h => ?_)
    · skip
      exact zL_ret (d_132_40 _ _ _ _)
    · skip
      exact J_132_43_ok   _ _ _ _ _ _
  · skip
    exact J_132_43_ok   _ _ _ _ _ _
def m_132 (l1 : Int32) (l2 : Int32) (im : zI) (lm : zJ) : zR :=
    zBd (m_130 l1 im lm) fun v1 im1 lm1 =>
    if v1 = 112 then
      if l2 = (l1 + 1) then
        some (50, im1, lm1)
      else
        J_132_22   l1 l2 v1 im1 lm1
    else
      J_132_22   l1 l2 v1 im1 lm1
theorem m_132_ok {B : zeB} (l1 : Int32) (l2 : Int32) (im : zI) (lm : zJ) : zL B 1 (m_132 l1 l2 im lm) (zeRun 132 0 [some (.ref 166), some (.int l1), some (.int l2), none] [] (zk B im lm)) := by
  unfold m_132
  refine zL_bd (d_132_0 _ _ _) (m_130_ok _ _ _) fun v1 im1 lm1 => ?_
  refine zL_if (d_132_5 _ _ _ _) (fun h => ?_) (fun h => ?_)
  · skip
    refine zL_if (d_132_12 _ _ _) (fun h => ?_) (fun h => ?_)
    · skip
      exact zL_ret (d_132_19 _ _ _ _)
    · skip
      exact J_132_22_ok   _ _ _ _ _
  · skip
    exact J_132_22_ok   _ _ _ _ _
/-! X5_isAllowed -/
theorem d_133_0 {B : zeB} {im : Nat → Nat → Int32} {lm : Nat → Nat → Int64} (l1 : Int32) (l2 : Int32) (o3 : Option Value)  : zeRun 133 0 [some (.ref 166), some (.int l1), some (.int l2), o3] [] (zk B im lm) = if l2 = l1 then zeRun 133 5 [some (.ref 166), some (.int l1), some (.int l2), o3] [] (zk B im lm) else zeRun 133 19 [some (.ref 166), some (.int l1), some (.int l2), o3] [] (zk B im lm) := ze_if (ok := true) rfl 3 rfl rfl
theorem d_133_5 {B : zeB} {im : Nat → Nat → Int32} {lm : Nat → Nat → Int64} (l1 : Int32) (o2 : Option Value) (o3 : Option Value)  : zeRun 133 5 [some (.ref 166), some (.int l1), o2, o3] [] (zk B im lm) = zeBh 133 10 [some (.ref 166), some (.int l1), o2, o3] [] (zeRun 131 0 [some (.ref 166), some (.int l1)] [] (zk B im lm)) := ze_call (ok := true) rfl 3 rfl rfl rfl
theorem d_133_10 {B : zeB} {im : Nat → Nat → Int32} {lm : Nat → Nat → Int64} (o0 : Option Value) (o1 : Option Value) (o2 : Option Value) (o3 : Option Value) (s0 : Int32)  : zeRun 133 10 [o0, o1, o2, o3] [.int s0] (zk B im lm) = if s0 ≤ 0 then zeRun 133 17 [o0, o1, o2, o3] [] (zk B im lm) else zeRun 133 13 [o0, o1, o2, o3] [] (zk B im lm) := ze_if (ok := true) rfl 1 rfl rfl
theorem d_133_17 {B : zeB} {im : Nat → Nat → Int32} {lm : Nat → Nat → Int64} (o0 : Option Value) (o1 : Option Value) (o2 : Option Value) (o3 : Option Value)  : zeRun 133 17 [o0, o1, o2, o3] [] (zk B im lm) = some (some (.int 0), (zk B im lm)) := ze_ret (ok := true) rfl 2 rfl rfl
theorem d_133_13 {B : zeB} {im : Nat → Nat → Int32} {lm : Nat → Nat → Int64} (o0 : Option Value) (o1 : Option Value) (o2 : Option Value) (o3 : Option Value)  : zeRun 133 13 [o0, o1, o2, o3] [] (zk B im lm) = some (some (.int 1), (zk B im lm)) := ze_ret (ok := true) rfl 3 rfl rfl
theorem d_133_19 {B : zeB} {im : Nat → Nat → Int32} {lm : Nat → Nat → Int64} (l1 : Int32) (l2 : Int32) (o3 : Option Value)  : zeRun 133 19 [some (.ref 166), some (.int l1), some (.int l2), o3] [] (zk B im lm) = zeBh 133 24 [some (.ref 166), some (.int l1), some (.int l2), o3] [] (zeRun 130 0 [some (.ref 166), some (.int l2)] [] (zk B im lm)) := ze_call (ok := true) rfl 3 rfl rfl rfl
theorem d_133_24 {B : zeB} {im : Nat → Nat → Int32} {lm : Nat → Nat → Int64} (l1 : Int32) (l2 : Int32) (o3 : Option Value) (s0 : Int32)  : zeRun 133 24 [some (.ref 166), some (.int l1), some (.int l2), o3] [.int s0] (zk B im lm) = if s0 < 48 then zeRun 133 45 [some (.ref 166), some (.int l1), some (.int l2), some (.int s0)] [] (zk B im lm) else zeRun 133 31 [some (.ref 166), some (.int l1), some (.int l2), some (.int s0)] [] (zk B im lm) := ze_if (ok := true) rfl 4 rfl rfl
theorem d_133_45 {B : zeB} {im : Nat → Nat → Int32} {lm : Nat → Nat → Int64} (o0 : Option Value) (o1 : Option Value) (o2 : Option Value) (o3 : Option Value)  : zeRun 133 45 [o0, o1, o2, o3] [] (zk B im lm) = some (some (.int 0), (zk B im lm)) := ze_ret (ok := true) rfl 2 rfl rfl
theorem d_133_31 {B : zeB} {im : Nat → Nat → Int32} {lm : Nat → Nat → Int64} (l1 : Int32) (l2 : Int32) (l3 : Int32)  : zeRun 133 31 [some (.ref 166), some (.int l1), some (.int l2), some (.int l3)] [] (zk B im lm) = zeBh 133 38 [some (.ref 166), some (.int l1), some (.int l2), some (.int l3)] [.int l3] (zeRun 132 0 [some (.ref 166), some (.int l1), some (.int l2), none] [] (zk B im lm)) := ze_call (ok := true) rfl 5 rfl rfl rfl
theorem d_133_38 {B : zeB} {im : Nat → Nat → Int32} {lm : Nat → Nat → Int64} (o0 : Option Value) (o1 : Option Value) (o2 : Option Value) (o3 : Option Value) (s0 : Int32) (s1 : Int32)  : zeRun 133 38 [o0, o1, o2, o3] [.int s1, .int s0] (zk B im lm) = if s1 < s0 then zeRun 133 45 [o0, o1, o2, o3] [] (zk B im lm) else zeRun 133 41 [o0, o1, o2, o3] [] (zk B im lm) := ze_if (ok := true) rfl 1 rfl rfl
theorem d_133_41 {B : zeB} {im : Nat → Nat → Int32} {lm : Nat → Nat → Int64} (o0 : Option Value) (o1 : Option Value) (o2 : Option Value) (o3 : Option Value)  : zeRun 133 41 [o0, o1, o2, o3] [] (zk B im lm) = some (some (.int 1), (zk B im lm)) := ze_ret (ok := true) rfl 3 rfl rfl
def m_133 (l1 : Int32) (l2 : Int32) (im : zI) (lm : zJ) : zR :=
    if l2 = l1 then
      zBd (m_131 l1 im lm) fun v1 im1 lm1 =>
      some (if v1 ≤ 0 then 0 else 1, im1, lm1)
    else
      zBd (m_130 l2 im lm) fun v2 im2 lm2 =>
      if v2 < 48 then
        some (0, im2, lm2)
      else
        zBd (m_132 l1 l2 im2 lm2) fun v3 im3 lm3 =>
        some (if v3 < v2 then 0 else 1, im3, lm3)
theorem m_133_ok {B : zeB} (l1 : Int32) (l2 : Int32) (im : zI) (lm : zJ) : zL B 1 (m_133 l1 l2 im lm) (zeRun 133 0 [some (.ref 166), some (.int l1), some (.int l2), none] [] (zk B im lm)) := by
  unfold m_133
  refine zL_if (d_133_0 _ _ _) (fun h => ?_) (fun h => ?_)
  · skip
    refine zL_bd (d_133_5 _ _ _) (m_131_ok _ _ _) fun v1 im1 lm1 => ?_
    refine zL_ifm (d_133_10 _ _ _ _ _) (fun h => ?_) (fun h => ?_)
    · repeat rw [if_pos h]
      exact zL_ret (d_133_17 _ _ _ _)
    · repeat rw [if_neg h]
      exact zL_ret (d_133_13 _ _ _ _)
  · skip
    refine zL_bd (d_133_19 _ _ _) (m_130_ok _ _ _) fun v2 im2 lm2 => ?_
    refine zL_if (d_133_24 _ _ _ _) (fun h => ?_) (fun h => ?_)
    · skip
      exact zL_ret (d_133_45 _ _ _ _)
    · skip
      refine zL_bd (d_133_31 _ _ _) (m_132_ok _ _ _ _) fun v3 im3 lm3 => ?_
      refine zL_ifm (d_133_38 _ _ _ _ _ _) (fun h => ?_) (fun h => ?_)
      · repeat rw [if_pos h]
        exact zL_ret (d_133_45 _ _ _ _)
      · repeat rw [if_neg h]
        exact zL_ret (d_133_41 _ _ _ _)
/-! X5_fault -/
theorem d_134_0 {B : zeB} {im : Nat → Nat → Int32} {lm : Nat → Nat → Int64} (o1 : Option Value) (o2 : Option Value)  : zeRun 134 0 [some (.ref 166), o1, o2] [] (zk B im lm) = zeRun 134 4 [some (.ref 166), some (.int 0), some (.int 0)] [] (zk B im lm) := ze_go (ok := true) rfl 4 rfl rfl
theorem d_134_4 {B : zeB} {im : Nat → Nat → Int32} {lm : Nat → Nat → Int64} (l1 : Int32) (l2 : Int32)  : zeRun 134 4 [some (.ref 166), some (.int l1), some (.int l2)] [] (zk B im lm) = if (im 166 0) ≤ l2 then zeRun 134 46 [some (.ref 166), some (.int l1), some (.int l2)] [] (zk B im lm) else zeRun 134 12 [some (.ref 166), some (.int l1), some (.int l2)] [] (zk B im lm) := ze_if (ok := true) rfl 4 rfl rfl
theorem d_134_46 {B : zeB} {im : Nat → Nat → Int32} {lm : Nat → Nat → Int64} (l1 : Int32) (o2 : Option Value)  : zeRun 134 46 [some (.ref 166), some (.int l1), o2] [] (zk B im lm) = if (im 166 0) ≤ 0 then zeRun 134 65 [some (.ref 166), some (.int l1), o2] [] (zk B im lm) else zeRun 134 53 [some (.ref 166), some (.int l1), o2] [] (zk B im lm) := ze_if (ok := true) rfl 3 rfl rfl
theorem d_134_65 {B : zeB} {im : Nat → Nat → Int32} {lm : Nat → Nat → Int64} (o1 : Option Value) (o2 : Option Value)  : zeRun 134 65 [some (.ref 166), o1, o2] [] (zk B im lm) = some (some (.int (im 166 0)), (zk B im lm)) := ze_ret (ok := true) rfl 3 rfl rfl
theorem d_134_53 {B : zeB} {im : Nat → Nat → Int32} {lm : Nat → Nat → Int64} (l1 : Int32) (o2 : Option Value)  : zeRun 134 53 [some (.ref 166), some (.int l1), o2] [] (zk B im lm) = if l1 = (im 166 0) then zeRun 134 61 [some (.ref 166), some (.int l1), o2] [] (zk B im lm) else zeRun 134 65 [some (.ref 166), some (.int l1), o2] [] (zk B im lm) := ze_if (ok := true) rfl 4 rfl rfl
theorem d_134_61 {B : zeB} {im : Nat → Nat → Int32} {lm : Nat → Nat → Int64} (o0 : Option Value) (o1 : Option Value) (o2 : Option Value)  : zeRun 134 61 [o0, o1, o2] [] (zk B im lm) = some (some (.int (-1)), (zk B im lm)) := ze_ret (ok := true) rfl 3 rfl rfl
theorem d_134_12 {B : zeB} {im : Nat → Nat → Int32} {lm : Nat → Nat → Int64} (l1 : Int32) (l2 : Int32)  : zeRun 134 12 [some (.ref 166), some (.int l1), some (.int l2)] [] (zk B im lm) = zeBh 134 18 [some (.ref 166), some (.int l1), some (.int l2)] [] (zeRun 133 0 [some (.ref 166), some (.int l1), some (.int l2), none] [] (zk B im lm)) := ze_call (ok := true) rfl 4 rfl rfl rfl
theorem d_134_18 {B : zeB} {im : Nat → Nat → Int32} {lm : Nat → Nat → Int64} (l1 : Int32) (l2 : Int32) (s0 : Int32)  : zeRun 134 18 [some (.ref 166), some (.int l1), some (.int l2)] [.int s0] (zk B im lm) = if s0 = 0 then zeRun 134 21 [some (.ref 166), some (.int l1), some (.int l2)] [] (zk B im lm) else zeRun 134 23 [some (.ref 166), some (.int l1), some (.int l2)] [] (zk B im lm) := ze_if (ok := true) rfl 1 rfl rfl
theorem d_134_21 {B : zeB} {im : Nat → Nat → Int32} {lm : Nat → Nat → Int64} (o0 : Option Value) (o1 : Option Value) (l2 : Int32)  : zeRun 134 21 [o0, o1, some (.int l2)] [] (zk B im lm) = some (some (.int l2), (zk B im lm)) := ze_ret (ok := true) rfl 2 rfl rfl
theorem d_134_23 {B : zeB} {im : Nat → Nat → Int32} {lm : Nat → Nat → Int64} (l1 : Int32) (l2 : Int32)  : zeRun 134 23 [some (.ref 166), some (.int l1), some (.int l2)] [] (zk B im lm) = zeBh 134 33 [some (.ref 166), some (.int l1), some (.int l2)] [.int ((l2 + 1) - l1)] (zeRun 131 0 [some (.ref 166), some (.int l1)] [] (zk B im lm)) := ze_call (ok := true) rfl 8 rfl rfl rfl
theorem d_134_33 {B : zeB} {im : Nat → Nat → Int32} {lm : Nat → Nat → Int64} (l1 : Int32) (l2 : Int32) (s0 : Int32) (s1 : Int32)  : zeRun 134 33 [some (.ref 166), some (.int l1), some (.int l2)] [.int s1, .int s0] (zk B im lm) = if s0 = s1 then zeRun 134 36 [some (.ref 166), some (.int l1), some (.int l2)] [] (zk B im lm) else zeRun 134 40 [some (.ref 166), some (.int l1), some (.int l2)] [] (zk B im lm) := ze_if (ok := true) rfl 1 rfl rfl
theorem d_134_36 {B : zeB} {im : Nat → Nat → Int32} {lm : Nat → Nat → Int64} (o1 : Option Value) (l2 : Int32)  : zeRun 134 36 [some (.ref 166), o1, some (.int l2)] [] (zk B im lm) = zeRun 134 4 [some (.ref 166), some (.int (l2 + 1)), some (.int (l2 + 1))] [] (zk B im lm) := ze_go (ok := true) rfl 6 rfl rfl
theorem d_134_40 {B : zeB} {im : Nat → Nat → Int32} {lm : Nat → Nat → Int64} (l1 : Int32) (l2 : Int32)  : zeRun 134 40 [some (.ref 166), some (.int l1), some (.int l2)] [] (zk B im lm) = zeRun 134 4 [some (.ref 166), some (.int l1), some (.int (l2 + 1))] [] (zk B im lm) := ze_go (ok := true) rfl 2 rfl rfl
def F_134_4  : Nat → Int32 → Int32 → zI → zJ → zR
  | 0, _, _, _, _ => none
  | n + 1, l1, l2, im, lm =>
    if (im 166 0) ≤ l2 then
      some (if (im 166 0) ≤ 0 then (im 166 0) else if l1 = (im 166 0) then (-1) else (im 166 0), im, lm)
    else
      zBd (m_133 l1 l2 im lm) fun v1 im1 lm1 =>
      if v1 = 0 then
        some (l2, im1, lm1)
      else
        zBd (m_131 l1 im1 lm1) fun v2 im2 lm2 =>
        F_134_4  n (if ((l2 + 1) - l1) = v2 then (l2 + 1) else l1) (l2 + 1) im2 lm2
theorem F_134_4_ok {B : zeB} : ∀ (n : Nat) (l1 : Int32) (l2 : Int32)  (im : zI) (lm : zJ), zL B 1 (F_134_4  n l1 l2 im lm) (zeRun 134 4 [some (.ref 166), some (.int l1), some (.int l2)] [] (zk B im lm)) := by
  intro n
  induction n with
  | zero => intros; exact zL_none
  | succ n ih =>
    intro l1 l2 im lm
    unfold F_134_4
    refine zL_if (d_134_4 _ _) (fun h => ?_) (fun h => ?_)
    · skip
      refine zL_ifm (d_134_46 _ _) (fun h => ?_) (fun h => ?_)
      · repeat rw [if_pos h]
        exact zL_ret (d_134_65 _ _)
      · repeat rw [if_neg h]
        refine zL_ifm (d_134_53 _ _) (fun h => ?_) (fun h => ?_)
        · repeat rw [if_pos h]
          exact zL_ret (d_134_61 _ _ _)
        · repeat rw [if_neg h]
          exact zL_ret (d_134_65 _ _)
    · skip
      refine zL_bd (d_134_12 _ _) (m_133_ok _ _ _ _) fun v1 im1 lm1 => ?_
      refine zL_if (d_134_18 _ _ _) (fun h => ?_) (fun h => ?_)
      · skip
        exact zL_ret (d_134_21 _ _ _)
      · skip
        refine zL_bd (d_134_23 _ _) (m_131_ok _ _ _) fun v2 im2 lm2 => ?_
        refine zL_ifm (d_134_33 _ _ _ _) (fun h => ?_) (fun h => ?_)
        · repeat rw [if_pos h]
          refine zL_eq (d_134_36 _ _) ?_
          exact ih _ _ _ _
        · repeat rw [if_neg h]
          refine zL_eq (d_134_40 _ _) ?_
          exact ih _ _ _ _
def m_134  (im : zI) (lm : zJ) : zR :=
    F_134_4  2000 0 0 im lm
theorem m_134_ok {B : zeB}  (im : zI) (lm : zJ) : zL B 1 (m_134  im lm) (zeRun 134 0 [some (.ref 166), none, none] [] (zk B im lm)) := by
  unfold m_134
  refine zL_eq (d_134_0 _ _) ?_
  exact F_134_4_ok  _ _ _ _ _
/-! X5_number -/
theorem d_135_0 {B : zeB} {im : Nat → Nat → Int32} {lm : Nat → Nat → Int64} (l1 : Int32) (l2 : Int32) (o3 : Option Value) (o4 : Option Value)  : zeRun 135 0 [some (.ref 166), some (.int l1), some (.int l2), o3, o4] [] (zk B im lm) = zeRun 135 5 [some (.ref 166), some (.int l1), some (.int l2), some (.int 0), some (.int l1)] [] (zk B im lm) := ze_go (ok := true) rfl 4 rfl rfl
theorem d_135_5 {B : zeB} {im : Nat → Nat → Int32} {lm : Nat → Nat → Int64} (l1 : Int32) (l2 : Int32) (l3 : Int32) (l4 : Int32)  : zeRun 135 5 [some (.ref 166), some (.int l1), some (.int l2), some (.int l3), some (.int l4)] [] (zk B im lm) = if (l1 + l2) ≤ l4 then zeRun 135 34 [some (.ref 166), some (.int l1), some (.int l2), some (.int l3), some (.int l4)] [] (zk B im lm) else zeRun 135 13 [some (.ref 166), some (.int l1), some (.int l2), some (.int l3), some (.int l4)] [] (zk B im lm) := ze_if (ok := true) rfl 5 rfl rfl
theorem d_135_34 {B : zeB} {im : Nat → Nat → Int32} {lm : Nat → Nat → Int64} (o0 : Option Value) (o1 : Option Value) (o2 : Option Value) (l3 : Int32) (o4 : Option Value)  : zeRun 135 34 [o0, o1, o2, some (.int l3), o4] [] (zk B im lm) = some (some (.int l3), (zk B im lm)) := ze_ret (ok := true) rfl 2 rfl rfl
theorem d_135_13 {B : zeB} {im : Nat → Nat → Int32} {lm : Nat → Nat → Int64} (l1 : Int32) (l2 : Int32) (l3 : Int32) (l4 : Int32)  : zeRun 135 13 [some (.ref 166), some (.int l1), some (.int l2), some (.int l3), some (.int l4)] [] (zk B im lm) = zeBh 135 23 [some (.ref 166), some (.int l1), some (.int l2), some (.int l3), some (.int l4)] [.int (10 * l3)] (zeRun 130 0 [some (.ref 166), some (.int l4)] [] (zk B im lm)) := ze_call (ok := true) rfl 6 rfl rfl rfl
theorem d_135_23 {B : zeB} {im : Nat → Nat → Int32} {lm : Nat → Nat → Int64} (l1 : Int32) (l2 : Int32) (o3 : Option Value) (l4 : Int32) (s0 : Int32) (s1 : Int32)  : zeRun 135 23 [some (.ref 166), some (.int l1), some (.int l2), o3, some (.int l4)] [.int s1, .int s0] (zk B im lm) = zeRun 135 5 [some (.ref 166), some (.int l1), some (.int l2), some (.int ((s0 + s1) - 48)), some (.int (l4 + 1))] [] (zk B im lm) := ze_go (ok := true) rfl 6 rfl rfl
def F_135_5  : Nat → Int32 → Int32 → Int32 → Int32 → zI → zJ → zR
  | 0, _, _, _, _, _, _ => none
  | n + 1, l1, l2, l3, l4, im, lm =>
    if (l1 + l2) ≤ l4 then
      some (l3, im, lm)
    else
      zBd (m_130 l4 im lm) fun v1 im1 lm1 =>
      F_135_5  n l1 l2 (((10 * l3) + v1) - 48) (l4 + 1) im1 lm1
theorem F_135_5_ok {B : zeB} : ∀ (n : Nat) (l1 : Int32) (l2 : Int32) (l3 : Int32) (l4 : Int32)  (im : zI) (lm : zJ), zL B 1 (F_135_5  n l1 l2 l3 l4 im lm) (zeRun 135 5 [some (.ref 166), some (.int l1), some (.int l2), some (.int l3), some (.int l4)] [] (zk B im lm)) := by
  intro n
  induction n with
  | zero => intros; exact zL_none
  | succ n ih =>
    intro l1 l2 l3 l4 im lm
    unfold F_135_5
    refine zL_if (d_135_5 _ _ _ _) (fun h => ?_) (fun h => ?_)
    · skip
      exact zL_ret (d_135_34 _ _ _ _ _)
    · skip
      refine zL_bd (d_135_13 _ _ _ _) (m_130_ok _ _ _) fun v1 im1 lm1 => ?_
      refine zL_eq (d_135_23 _ _ _ _ _ _) ?_
      exact ih _ _ _ _ _ _
def m_135 (l1 : Int32) (l2 : Int32) (im : zI) (lm : zJ) : zR :=
    F_135_5  2000 l1 l2 0 l1 im lm
theorem m_135_ok {B : zeB} (l1 : Int32) (l2 : Int32) (im : zI) (lm : zJ) : zL B 1 (m_135 l1 l2 im lm) (zeRun 135 0 [some (.ref 166), some (.int l1), some (.int l2), none, none] [] (zk B im lm)) := by
  unfold m_135
  refine zL_eq (d_135_0 _ _ _ _) ?_
  exact F_135_5_ok  _ _ _ _ _ _ _
/-! X7_doMove -/
theorem d_136_0 {B : zeB} {im : Nat → Nat → Int32} {lm : Nat → Nat → Int64} (l1 : Int32)  : zeRun 136 0 [some (.ref 16), some (.int l1)] [] (zk B im lm) = zeBh 136 8 [some (.ref 16), some (.int l1)] [] (zeRun 130 0 [some (.ref 166), some (.int l1)] [] (zk B im lm)) := ze_call (ok := true) rfl 4 rfl rfl rfl
theorem d_136_8 {B : zeB} {im : Nat → Nat → Int32} {lm : Nat → Nat → Int64} (l1 : Int32) (s0 : Int32)  : zeRun 136 8 [some (.ref 16), some (.int l1)] [.int s0] (zk B im lm) = zeRun 136 (zeSw s0 135 [(43, 123), (45, 129), (98, 80), (112, 60), (119, 107)]) [some (.ref 16), some (.int l1)] [] (zk B im lm) := ze_go (ok := true) rfl 1 rfl rfl
theorem d_136_123 {B : zeB} {im : Nat → Nat → Int32} {lm : Nat → Nat → Int64} (o1 : Option Value)  : zeRun 136 123 [some (.ref 16), o1] [] (zk B im lm) = zeBh 136 128 [some (.ref 16), o1] [] (zeRun 85 0 [some (.ref 16), some (.int 1)] [] (zk B im lm)) := ze_call (ok := true) rfl 3 rfl rfl rfl
theorem d_136_128 {B : zeB} {im : Nat → Nat → Int32} {lm : Nat → Nat → Int64} (o0 : Option Value) (o1 : Option Value) (s0 : Int32)  : zeRun 136 128 [o0, o1] [.int s0] (zk B im lm) = some (some (.int s0), (zk B im lm)) := ze_ret (ok := true) rfl 1 rfl rfl
theorem d_136_129 {B : zeB} {im : Nat → Nat → Int32} {lm : Nat → Nat → Int64} (o1 : Option Value)  : zeRun 136 129 [some (.ref 16), o1] [] (zk B im lm) = zeBh 136 134 [some (.ref 16), o1] [] (zeRun 85 0 [some (.ref 16), some (.int 0)] [] (zk B im lm)) := ze_call (ok := true) rfl 3 rfl rfl rfl
theorem d_136_134 {B : zeB} {im : Nat → Nat → Int32} {lm : Nat → Nat → Int64} (o0 : Option Value) (o1 : Option Value) (s0 : Int32)  : zeRun 136 134 [o0, o1] [.int s0] (zk B im lm) = some (some (.int s0), (zk B im lm)) := ze_ret (ok := true) rfl 1 rfl rfl
theorem d_136_80 {B : zeB} {im : Nat → Nat → Int32} {lm : Nat → Nat → Int64} (l1 : Int32)  : zeRun 136 80 [some (.ref 16), some (.int l1)] [] (zk B im lm) = zeBh 136 92 [some (.ref 16), some (.int l1)] [.ref 16] (zeRun 135 0 [some (.ref 166), some (.int (l1 + 1)), some (.int 1), none, none] [] (zk B im lm)) := ze_call (ok := true) rfl 8 rfl rfl rfl
theorem d_136_92 {B : zeB} {im : Nat → Nat → Int32} {lm : Nat → Nat → Int64} (l1 : Int32) (s1 : Int32)  : zeRun 136 92 [some (.ref 16), some (.int l1)] [.int s1, .ref 16] (zk B im lm) = zeBh 136 103 [some (.ref 16), some (.int l1)] [.int s1, .ref 16] (zeRun 135 0 [some (.ref 166), some (.int (l1 + 2)), some (.int 2), none, none] [] (zk B im lm)) := ze_call (ok := true) rfl 7 rfl rfl rfl
theorem d_136_103 {B : zeB} {im : Nat → Nat → Int32} {lm : Nat → Nat → Int64} (o0 : Option Value) (o1 : Option Value) (s1 : Int32) (s2 : Int32)  : zeRun 136 103 [o0, o1] [.int s2, .int s1, .ref 16] (zk B im lm) = zeBh 136 106 [o0, o1] [] (zeRun 58 0 [some (.ref 16), some (.int s1), some (.int s2)] [] (zk B im lm)) := ze_call (ok := true) rfl 1 rfl rfl rfl
theorem d_136_106 {B : zeB} {im : Nat → Nat → Int32} {lm : Nat → Nat → Int64} (o0 : Option Value) (o1 : Option Value) (s0 : Int32)  : zeRun 136 106 [o0, o1] [.int s0] (zk B im lm) = some (some (.int s0), (zk B im lm)) := ze_ret (ok := true) rfl 1 rfl rfl
theorem d_136_60 {B : zeB} {im : Nat → Nat → Int32} {lm : Nat → Nat → Int64} (l1 : Int32)  : zeRun 136 60 [some (.ref 16), some (.int l1)] [] (zk B im lm) = zeBh 136 65 [some (.ref 16), some (.int l1)] [.ref 16] (zeRun 39 0 [some (.ref 16)] [] (zk B im lm)) := ze_call (ok := true) rfl 3 rfl rfl rfl
theorem d_136_65 {B : zeB} {im : Nat → Nat → Int32} {lm : Nat → Nat → Int64} (l1 : Int32) (s1 : Int32)  : zeRun 136 65 [some (.ref 16), some (.int l1)] [.int s1, .ref 16] (zk B im lm) = zeBh 136 76 [some (.ref 16), some (.int l1)] [.int s1, .ref 16] (zeRun 135 0 [some (.ref 166), some (.int (l1 + 1)), some (.int 2), none, none] [] (zk B im lm)) := ze_call (ok := true) rfl 7 rfl rfl rfl
theorem d_136_76 {B : zeB} {im : Nat → Nat → Int32} {lm : Nat → Nat → Int64} (o0 : Option Value) (o1 : Option Value) (s1 : Int32) (s2 : Int32)  : zeRun 136 76 [o0, o1] [.int s2, .int s1, .ref 16] (zk B im lm) = zeBh 136 79 [o0, o1] [] (zeRun 42 0 [some (.ref 16), some (.int s1), some (.int s2)] [] (zk B im lm)) := ze_call (ok := true) rfl 1 rfl rfl rfl
theorem d_136_79 {B : zeB} {im : Nat → Nat → Int32} {lm : Nat → Nat → Int64} (o0 : Option Value) (o1 : Option Value) (s0 : Int32)  : zeRun 136 79 [o0, o1] [.int s0] (zk B im lm) = some (some (.int s0), (zk B im lm)) := ze_ret (ok := true) rfl 1 rfl rfl
theorem d_136_107 {B : zeB} {im : Nat → Nat → Int32} {lm : Nat → Nat → Int64} (l1 : Int32)  : zeRun 136 107 [some (.ref 16), some (.int l1)] [] (zk B im lm) = zeBh 136 119 [some (.ref 16), some (.int l1)] [.ref 16] (zeRun 135 0 [some (.ref 166), some (.int (l1 + 1)), some (.int 4), none, none] [] (zk B im lm)) := ze_call (ok := true) rfl 8 rfl rfl rfl
theorem d_136_119 {B : zeB} {im : Nat → Nat → Int32} {lm : Nat → Nat → Int64} (o0 : Option Value) (o1 : Option Value) (s1 : Int32)  : zeRun 136 119 [o0, o1] [.int s1, .ref 16] (zk B im lm) = zeBh 136 122 [o0, o1] [] (zeRun 97 0 [some (.ref 16), some (.int s1), none] [] (zk B im lm)) := ze_call (ok := true) rfl 1 rfl rfl rfl
theorem d_136_122 {B : zeB} {im : Nat → Nat → Int32} {lm : Nat → Nat → Int64} (o0 : Option Value) (o1 : Option Value) (s0 : Int32)  : zeRun 136 122 [o0, o1] [.int s0] (zk B im lm) = some (some (.int s0), (zk B im lm)) := ze_ret (ok := true) rfl 1 rfl rfl
theorem d_136_135 {B : zeB} {im : Nat → Nat → Int32} {lm : Nat → Nat → Int64} (o1 : Option Value)  : zeRun 136 135 [some (.ref 16), o1] [] (zk B im lm) = zeBh 136 139 [some (.ref 16), o1] [] (zeRun 92 0 [some (.ref 16)] [] (zk B im lm)) := ze_call (ok := true) rfl 2 rfl rfl rfl
theorem d_136_139 {B : zeB} {im : Nat → Nat → Int32} {lm : Nat → Nat → Int64} (o0 : Option Value) (o1 : Option Value) (s0 : Int32)  : zeRun 136 139 [o0, o1] [.int s0] (zk B im lm) = some (some (.int s0), (zk B im lm)) := ze_ret (ok := true) rfl 1 rfl rfl
def m_136 (l1 : Int32) (im : zI) (lm : zJ) : zR :=
    zBd (m_130 l1 im lm) fun v1 im1 lm1 =>
    if v1 = 43 then
      zBd (m_85 1 im1 lm1) fun v2 im2 lm2 =>
      some (v2, im2, lm2)
    else
      if v1 = 45 then
        zBd (m_85 0 im1 lm1) fun v3 im3 lm3 =>
        some (v3, im3, lm3)
      else
        if v1 = 98 then
          zBd (m_135 (l1 + 1) 1 im1 lm1) fun v4 im4 lm4 =>
          zBd (m_135 (l1 + 2) 2 im4 lm4) fun v5 im5 lm5 =>
          zBd (m_58 v4 v5 im5 lm5) fun v6 im6 lm6 =>
          some (v6, im6, lm6)
        else
          if v1 = 112 then
            zBd (m_135 (l1 + 1) 2 im1 lm1) fun v8 im8 lm8 =>
            zBd (m_42 (if (im1 17 1) = 0 then (-10000005) else (im1 32 0) : Int32) v8 im8 lm8) fun v9 im9 lm9 =>
            some (v9, im9, lm9)
          else
            if v1 = 119 then
              zBd (m_135 (l1 + 1) 4 im1 lm1) fun v10 im10 lm10 =>
              zBd (m_97 v10 im10 lm10) fun v11 im11 lm11 =>
              some (v11, im11, lm11)
            else
              zBd (m_92  im1 lm1) fun v12 im12 lm12 =>
              some (v12, im12, lm12)
theorem m_136_ok {B : zeB} (l1 : Int32) (im : zI) (lm : zJ) : zL B 1 (m_136 l1 im lm) (zeRun 136 0 [some (.ref 16), some (.int l1)] [] (zk B im lm)) := by
  unfold m_136
  refine zL_bd (d_136_0 _) (m_130_ok _ _ _) fun v1 im1 lm1 => ?_
  refine zL_eq (d_136_8 _ _) ?_
  refine zL_sw (fun h => ?_) (fun h => ?_)
  · skip
    refine zL_bd (d_136_123 _) (m_85_ok _ _ _) fun v2 im2 lm2 => ?_
    exact zL_ret (d_136_128 _ _ _)
  refine zL_sw (fun h => ?_) (fun h => ?_)
  · skip
    refine zL_bd (d_136_129 _) (m_85_ok _ _ _) fun v3 im3 lm3 => ?_
    exact zL_ret (d_136_134 _ _ _)
  refine zL_sw (fun h => ?_) (fun h => ?_)
  · skip
    refine zL_bd (d_136_80 _) (m_135_ok _ _ _ _) fun v4 im4 lm4 => ?_
    refine zL_bd (d_136_92 _ _) (m_135_ok _ _ _ _) fun v5 im5 lm5 => ?_
    refine zL_bd (d_136_103 _ _ _ _) (m_58_ok _ _ _ _) fun v6 im6 lm6 => ?_
    exact zL_ret (d_136_106 _ _ _)
  refine zL_sw (fun h => ?_) (fun h => ?_)
  · skip
    refine zL_bdp (e := (if (im1 17 1) = 0 then (-10000005) else (im1 32 0) : Int32)) (d_136_60 _) (m_39_ok _ _) ?_
    refine zL_bd (d_136_65 _ _) (m_135_ok _ _ _ _) fun v8 im8 lm8 => ?_
    refine zL_bd (d_136_76 _ _ _ _) (m_42_ok _ _ _ _) fun v9 im9 lm9 => ?_
    exact zL_ret (d_136_79 _ _ _)
  refine zL_sw (fun h => ?_) (fun h => ?_)
  · skip
    refine zL_bd (d_136_107 _) (m_135_ok _ _ _ _) fun v10 im10 lm10 => ?_
    refine zL_bd (d_136_119 _ _ _) (m_97_ok _ _ _) fun v11 im11 lm11 => ?_
    exact zL_ret (d_136_122 _ _ _)
  refine zL_swd ?_
  refine zL_bd (d_136_135 _) (m_92_ok _ _) fun v12 im12 lm12 => ?_
  exact zL_ret (d_136_139 _ _ _)
