/-! pure: X8_entry, X7_isClueUnderWay, X7_leaders, X7_sumOfScores, X7_count, X8_leaders, X8_count, J0_coder_7d493_4, J0_coder_7d493_6, J0_coder_7d493_2, J0_length_8abf5_4, J0_length_8abf5_6, J0_length_8abf5_2, J0_isLatin1_aae02_4, J0_isLatin1_aae02_6, J0_isLatin1_aae02_2, J3_checkIndex_8e157 -/
/-! X8_entry -/
theorem d_173_0 {B : zeB} {im : Nat → Nat → Int32} {lm : Nat → Nat → Int64} (l1 : Int32) (l2 : Int32)  : zeRun 173 0 [some (.ref 170), some (.int l1), some (.int l2)] [] (zk B im lm) = zeBh 173 5 [some (.ref 170), some (.int l1), some (.int l2)] [] (zeRun 123 0 [some (.ref 170), some (.int l1)] [] (zk B im lm)) := ze_call (ok := true) rfl 3 rfl rfl rfl
theorem d_173_5 {B : zeB} {im : Nat → Nat → Int32} {lm : Nat → Nat → Int64} (l1 : Int32) (l2 : Int32) (s0 : Int32)  : zeRun 173 5 [some (.ref 170), some (.int l1), some (.int l2)] [.int s0] (zk B im lm) = if s0 = 0 then zeRun 173 11 [some (.ref 170), some (.int l1), some (.int l2)] [] (zk B im lm) else zeRun 173 8 [some (.ref 170), some (.int l1), some (.int l2)] [] (zk B im lm) := ze_if (ok := true) rfl 1 rfl rfl
theorem d_173_11 {B : zeB} {im : Nat → Nat → Int32} {lm : Nat → Nat → Int64} (l1 : Int32) (l2 : Int32)  : zeRun 173 11 [some (.ref 170), some (.int l1), some (.int l2)] [] (zk B im lm) = zeBh 173 15 [some (.ref 170), some (.int l1), some (.int l2)] [] (zeRun 47 0 [some (.ref 170), none, none, none, none, none, none] [] (zk B im lm)) := ze_call (ok := true) rfl 2 rfl rfl rfl
theorem d_173_15 {B : zeB} {im : Nat → Nat → Int32} {lm : Nat → Nat → Int64} (l1 : Int32) (l2 : Int32)  : zeRun 173 15 [some (.ref 170), some (.int l1), some (.int l2)] [] (zk B im lm) = zeRun 173 (zeSw l2 135 [(0, 64), (1, 64), (2, 76), (3, 64), (4, 91), (5, 98), (6, 113), (7, 120)]) [some (.ref 170), some (.int l1), some (.int l2)] [] (zk B im lm) := ze_go (ok := true) rfl 2 rfl rfl
theorem d_173_64 {B : zeB} {im : Nat → Nat → Int32} {lm : Nat → Nat → Int64} (l1 : Int32) (l2 : Int32)  : zeRun 173 64 [some (.ref 170), some (.int l1), some (.int l2)] [] (zk B im lm) = zeBh 173 72 [some (.ref 170), some (.int l1), some (.int l2)] [.ref 171] (zeRun 45 0 [some (.int l1)] [] (zk B im lm)) := ze_call (ok := true) rfl 4 rfl rfl rfl
theorem d_173_72 {B : zeB} {im : Nat → Nat → Int32} {lm : Nat → Nat → Int64} (o0 : Option Value) (o1 : Option Value) (l2 : Int32) (s1 : Int32) (c0 : zeInb (s1 + l2) 360 = true) : zeRun 173 72 [o0, o1, some (.int l2)] [.int s1, .ref 171] (zk B im lm) = some (some (.int (im 171 (Int32.toNatClampNeg (s1 + l2)))), (zk B im lm)) := ze_ret (ok := (zeInb (s1 + l2) 360 && true)) rfl 4 rfl (zeA2 c0 rfl)
theorem d_173_76 {B : zeB} {im : Nat → Nat → Int32} {lm : Nat → Nat → Int64} (l1 : Int32) (o2 : Option Value)  : zeRun 173 76 [some (.ref 170), some (.int l1), o2] [] (zk B im lm) = zeBh 173 84 [some (.ref 170), some (.int l1), o2] [.ref 171] (zeRun 45 0 [some (.int l1)] [] (zk B im lm)) := ze_call (ok := true) rfl 4 rfl rfl rfl
theorem d_173_84 {B : zeB} {im : Nat → Nat → Int32} {lm : Nat → Nat → Int64} (o0 : Option Value) (o1 : Option Value) (o2 : Option Value) (s1 : Int32) (c0 : zeInb (s1 + 2) 360 = true) : zeRun 173 84 [o0, o1, o2] [.int s1, .ref 171] (zk B im lm) = zeBh 173 90 [o0, o1, o2] [] (zeRun 160 0 [some (.int (im 171 (Int32.toNatClampNeg (s1 + 2))))] [] (zk B im lm)) := ze_call (ok := (zeInb (s1 + 2) 360 && true)) rfl 4 rfl rfl (zeA2 c0 rfl)
theorem d_173_90 {B : zeB} {im : Nat → Nat → Int32} {lm : Nat → Nat → Int64} (o0 : Option Value) (o1 : Option Value) (o2 : Option Value) (s0 : Int32)  : zeRun 173 90 [o0, o1, o2] [.int s0] (zk B im lm) = some (some (.int s0), (zk B im lm)) := ze_ret (ok := true) rfl 1 rfl rfl
theorem d_173_91 {B : zeB} {im : Nat → Nat → Int32} {lm : Nat → Nat → Int64} (l1 : Int32) (o2 : Option Value) (c0 : zeInb l1 60 = true) : zeRun 173 91 [some (.ref 170), some (.int l1), o2] [] (zk B im lm) = some (some (.int (im 176 (Int32.toNatClampNeg l1))), (zk B im lm)) := ze_ret (ok := (zeInb l1 60 && true)) rfl 5 rfl (zeA2 c0 rfl)
theorem d_173_98 {B : zeB} {im : Nat → Nat → Int32} {lm : Nat → Nat → Int64} (l1 : Int32) (o2 : Option Value)  : zeRun 173 98 [some (.ref 170), some (.int l1), o2] [] (zk B im lm) = zeBh 173 106 [some (.ref 170), some (.int l1), o2] [.ref 171] (zeRun 45 0 [some (.int l1)] [] (zk B im lm)) := ze_call (ok := true) rfl 4 rfl rfl rfl
theorem d_173_106 {B : zeB} {im : Nat → Nat → Int32} {lm : Nat → Nat → Int64} (o0 : Option Value) (o1 : Option Value) (o2 : Option Value) (s1 : Int32) (c0 : zeInb (s1 + 4) 360 = true) : zeRun 173 106 [o0, o1, o2] [.int s1, .ref 171] (zk B im lm) = zeBh 173 112 [o0, o1, o2] [] (zeRun 160 0 [some (.int (im 171 (Int32.toNatClampNeg (s1 + 4))))] [] (zk B im lm)) := ze_call (ok := (zeInb (s1 + 4) 360 && true)) rfl 4 rfl rfl (zeA2 c0 rfl)
theorem d_173_112 {B : zeB} {im : Nat → Nat → Int32} {lm : Nat → Nat → Int64} (o0 : Option Value) (o1 : Option Value) (o2 : Option Value) (s0 : Int32)  : zeRun 173 112 [o0, o1, o2] [.int s0] (zk B im lm) = some (some (.int s0), (zk B im lm)) := ze_ret (ok := true) rfl 1 rfl rfl
theorem d_173_113 {B : zeB} {im : Nat → Nat → Int32} {lm : Nat → Nat → Int64} (l1 : Int32) (o2 : Option Value) (c0 : zeInb l1 60 = true) : zeRun 173 113 [some (.ref 170), some (.int l1), o2] [] (zk B im lm) = some (some (.int (im 178 (Int32.toNatClampNeg l1))), (zk B im lm)) := ze_ret (ok := (zeInb l1 60 && true)) rfl 5 rfl (zeA2 c0 rfl)
theorem d_173_120 {B : zeB} {im : Nat → Nat → Int32} {lm : Nat → Nat → Int64} (l1 : Int32) (o2 : Option Value) (c0 : zeInb l1 60 = true) : zeRun 173 120 [some (.ref 170), some (.int l1), o2] [] (zk B im lm) = if (im 177 (Int32.toNatClampNeg l1)) = 0 then zeRun 173 133 [some (.ref 170), some (.int l1), o2] [] (zk B im lm) else zeRun 173 129 [some (.ref 170), some (.int l1), o2] [] (zk B im lm) := ze_if (ok := (zeInb l1 60 && true)) rfl 5 rfl (zeA2 c0 rfl)
theorem d_173_133 {B : zeB} {im : Nat → Nat → Int32} {lm : Nat → Nat → Int64} (o0 : Option Value) (o1 : Option Value) (o2 : Option Value)  : zeRun 173 133 [o0, o1, o2] [] (zk B im lm) = some (some (.int 0), (zk B im lm)) := ze_ret (ok := true) rfl 2 rfl rfl
theorem d_173_129 {B : zeB} {im : Nat → Nat → Int32} {lm : Nat → Nat → Int64} (o0 : Option Value) (o1 : Option Value) (o2 : Option Value)  : zeRun 173 129 [o0, o1, o2] [] (zk B im lm) = some (some (.int 1), (zk B im lm)) := ze_ret (ok := true) rfl 3 rfl rfl
theorem d_173_135 {B : zeB} {im : Nat → Nat → Int32} {lm : Nat → Nat → Int64} (o0 : Option Value) (o1 : Option Value) (o2 : Option Value)  : zeRun 173 135 [o0, o1, o2] [] (zk B im lm) = some (some (.int (-10000002)), (zk B im lm)) := ze_ret (ok := true) rfl 2 rfl rfl
theorem d_173_8 {B : zeB} {im : Nat → Nat → Int32} {lm : Nat → Nat → Int64} (o0 : Option Value) (o1 : Option Value) (o2 : Option Value)  : zeRun 173 8 [o0, o1, o2] [] (zk B im lm) = some (some (.int (-10000001)), (zk B im lm)) := ze_ret (ok := true) rfl 2 rfl rfl
def m_173 (l1 : Int32) (l2 : Int32) (im : zI) (lm : zJ) : zR :=
    if (if (if l1 < 0 then 0 else if ((im 171 5) - 1) < l1 then 0 else 1 : Int32) = 0 then 1 else 0 : Int32) = 0 then
      zBd (m_47  im lm) fun _ im2 lm2 =>
      zCk (if l2 = 0 then zeInb (((60 + (5 * l1)) : Int32) + l2) 360 else if l2 = 1 then zeInb (((60 + (5 * l1)) : Int32) + l2) 360 else if l2 = 2 then zeInb (((60 + (5 * l1)) : Int32) + 2) 360 else if l2 = 3 then zeInb (((60 + (5 * l1)) : Int32) + l2) 360 else if l2 = 4 then zeInb l1 60 else if l2 = 5 then zeInb (((60 + (5 * l1)) : Int32) + 4) 360 else if l2 = 6 then zeInb l1 60 else if l2 = 7 then zeInb l1 60 else true) <|
      some (if l2 = 0 then (im2 171 (Int32.toNatClampNeg (((60 + (5 * l1)) : Int32) + l2))) else if l2 = 1 then (im2 171 (Int32.toNatClampNeg (((60 + (5 * l1)) : Int32) + l2))) else if l2 = 2 then (if 0 ≤ (im2 171 (Int32.toNatClampNeg (((60 + (5 * l1)) : Int32) + 2))) then (im2 171 (Int32.toNatClampNeg (((60 + (5 * l1)) : Int32) + 2))) else (-10000005) : Int32) else if l2 = 3 then (im2 171 (Int32.toNatClampNeg (((60 + (5 * l1)) : Int32) + l2))) else if l2 = 4 then (im2 176 (Int32.toNatClampNeg l1)) else if l2 = 5 then (if 0 ≤ (im2 171 (Int32.toNatClampNeg (((60 + (5 * l1)) : Int32) + 4))) then (im2 171 (Int32.toNatClampNeg (((60 + (5 * l1)) : Int32) + 4))) else (-10000005) : Int32) else if l2 = 6 then (im2 178 (Int32.toNatClampNeg l1)) else if l2 = 7 then if (im2 177 (Int32.toNatClampNeg l1)) = 0 then 0 else 1 else (-10000002), im2, lm2)
    else
      some ((-10000001), im, lm)
theorem m_173_ok {B : zeB} (l1 : Int32) (l2 : Int32) (im : zI) (lm : zJ) : zL B 1 (m_173 l1 l2 im lm) (zeRun 173 0 [some (.ref 170), some (.int l1), some (.int l2)] [] (zk B im lm)) := by
  unfold m_173
  refine zL_bdp (e := (if (if l1 < 0 then 0 else if ((im 171 5) - 1) < l1 then 0 else 1 : Int32) = 0 then 1 else 0 : Int32)) (d_173_0 _ _) (m_123_ok _ _ _) ?_
  refine zL_if (d_173_5 _ _ _) (fun h => ?_) (fun h => ?_)
  · skip
    refine zL_bdv (d_173_11 _ _) (m_47_ok _ _) fun _ im2 lm2 => ?_
    refine zL_eq (d_173_15 _ _) ?_
    refine zL_swm (fun h => ?_) (fun h => ?_)
    · repeat rw [if_pos h]
      refine zL_bdp (e := ((60 + (5 * l1)) : Int32)) (d_173_64 _ _) (m_45_ok _ _ _) ?_
      refine zL_ck fun c1 => ?_
      exact zL_ret (d_173_72 _ _ _ _ c1)
    repeat rw [if_neg h]
    refine zL_swm (fun h => ?_) (fun h => ?_)
    · repeat rw [if_pos h]
      refine zL_bdp (e := ((60 + (5 * l1)) : Int32)) (d_173_64 _ _) (m_45_ok _ _ _) ?_
      refine zL_ck fun c2 => ?_
      exact zL_ret (d_173_72 _ _ _ _ c2)
    repeat rw [if_neg h]
    refine zL_swm (fun h => ?_) (fun h => ?_)
    · repeat rw [if_pos h]
      refine zL_bdp (e := ((60 + (5 * l1)) : Int32)) (d_173_76 _ _) (m_45_ok _ _ _) ?_
      refine zL_ck fun c3 => ?_
      refine zL_bdp (e := (if 0 ≤ (im2 171 (Int32.toNatClampNeg (((60 + (5 * l1)) : Int32) + 2))) then (im2 171 (Int32.toNatClampNeg (((60 + (5 * l1)) : Int32) + 2))) else (-10000005) : Int32)) (d_173_84 _ _ _ _ c3) (m_160_ok _ _ _) ?_
      exact zL_ret (d_173_90 _ _ _ _)
    repeat rw [if_neg h]
    refine zL_swm (fun h => ?_) (fun h => ?_)
    · repeat rw [if_pos h]
      refine zL_bdp (e := ((60 + (5 * l1)) : Int32)) (d_173_64 _ _) (m_45_ok _ _ _) ?_
      refine zL_ck fun c4 => ?_
      exact zL_ret (d_173_72 _ _ _ _ c4)
    repeat rw [if_neg h]
    refine zL_swm (fun h => ?_) (fun h => ?_)
    · repeat rw [if_pos h]
      refine zL_ck fun c5 => ?_
      exact zL_ret (d_173_91 _ _ c5)
    repeat rw [if_neg h]
    refine zL_swm (fun h => ?_) (fun h => ?_)
    · repeat rw [if_pos h]
      refine zL_bdp (e := ((60 + (5 * l1)) : Int32)) (d_173_98 _ _) (m_45_ok _ _ _) ?_
      refine zL_ck fun c6 => ?_
      refine zL_bdp (e := (if 0 ≤ (im2 171 (Int32.toNatClampNeg (((60 + (5 * l1)) : Int32) + 4))) then (im2 171 (Int32.toNatClampNeg (((60 + (5 * l1)) : Int32) + 4))) else (-10000005) : Int32)) (d_173_106 _ _ _ _ c6) (m_160_ok _ _ _) ?_
      exact zL_ret (d_173_112 _ _ _ _)
    repeat rw [if_neg h]
    refine zL_swm (fun h => ?_) (fun h => ?_)
    · repeat rw [if_pos h]
      refine zL_ck fun c7 => ?_
      exact zL_ret (d_173_113 _ _ c7)
    repeat rw [if_neg h]
    refine zL_swm (fun h => ?_) (fun h => ?_)
    · repeat rw [if_pos h]
      refine zL_ck fun c8 => ?_
      refine zL_ifm (d_173_120 _ _ c8) (fun h => ?_) (fun h => ?_)
      · repeat rw [if_pos h]
        exact zL_ret (d_173_133 _ _ _)
      · repeat rw [if_neg h]
        exact zL_ret (d_173_129 _ _ _)
    repeat rw [if_neg h]
    refine zL_swd ?_
    refine zL_ckt ?_
    exact zL_ret (d_173_135 _ _ _)
  · skip
    exact zL_ret (d_173_8 _ _ _)
/-! X7_isClueUnderWay -/
theorem d_174_0 {B : zeB} {im : Nat → Nat → Int32} {lm : Nat → Nat → Int64}   : zeRun 174 0 [some (.ref 16)] [] (zk B im lm) = if (im 17 0) = 1 then zeRun 174 33 [some (.ref 16)] [] (zk B im lm) else zeRun 174 11 [some (.ref 16)] [] (zk B im lm) := ze_if (ok := true) rfl 5 rfl rfl
theorem d_174_33 {B : zeB} {im : Nat → Nat → Int32} {lm : Nat → Nat → Int64} (o0 : Option Value)  : zeRun 174 33 [o0] [] (zk B im lm) = some (some (.int 1), (zk B im lm)) := ze_ret (ok := true) rfl 3 rfl rfl
theorem d_174_11 {B : zeB} {im : Nat → Nat → Int32} {lm : Nat → Nat → Int64}   : zeRun 174 11 [some (.ref 16)] [] (zk B im lm) = if (im 17 0) = 2 then zeRun 174 33 [some (.ref 16)] [] (zk B im lm) else zeRun 174 22 [some (.ref 16)] [] (zk B im lm) := ze_if (ok := true) rfl 5 rfl rfl
theorem d_174_22 {B : zeB} {im : Nat → Nat → Int32} {lm : Nat → Nat → Int64}   : zeRun 174 22 [some (.ref 16)] [] (zk B im lm) = if (im 17 0) = 3 then zeRun 174 33 [some (.ref 16)] [] (zk B im lm) else zeRun 174 37 [some (.ref 16)] [] (zk B im lm) := ze_if (ok := true) rfl 5 rfl rfl
theorem d_174_37 {B : zeB} {im : Nat → Nat → Int32} {lm : Nat → Nat → Int64} (o0 : Option Value)  : zeRun 174 37 [o0] [] (zk B im lm) = some (some (.int 0), (zk B im lm)) := ze_ret (ok := true) rfl 2 rfl rfl
def m_174  (im : zI) (lm : zJ) : zR :=
    some (if (im 17 0) = 1 then 1 else if (im 17 0) = 2 then 1 else if (im 17 0) = 3 then 1 else 0, im, lm)
theorem m_174_ok {B : zeB}  (im : zI) (lm : zJ) : zL B 1 (m_174  im lm) (zeRun 174 0 [some (.ref 16)] [] (zk B im lm)) := by
  unfold m_174
  refine zL_ifm d_174_0 (fun h => ?_) (fun h => ?_)
  · repeat rw [if_pos h]
    exact zL_ret (d_174_33 _)
  · repeat rw [if_neg h]
    refine zL_ifm d_174_11 (fun h => ?_) (fun h => ?_)
    · repeat rw [if_pos h]
      exact zL_ret (d_174_33 _)
    · repeat rw [if_neg h]
      refine zL_ifm d_174_22 (fun h => ?_) (fun h => ?_)
      · repeat rw [if_pos h]
        exact zL_ret (d_174_33 _)
      · repeat rw [if_neg h]
        exact zL_ret (d_174_37 _)
/-! X7_leaders -/
theorem d_175_0 {B : zeB} {im : Nat → Nat → Int32} {lm : Nat → Nat → Int64} (o1 : Option Value) (o2 : Option Value)  : zeRun 175 0 [some (.ref 16), o1, o2] [] (zk B im lm) = zeRun 175 4 [some (.ref 16), some (.int 0), some (.int 0)] [] (zk B im lm) := ze_go (ok := true) rfl 4 rfl rfl
theorem d_175_4 {B : zeB} {im : Nat → Nat → Int32} {lm : Nat → Nat → Int64} (l1 : Int32) (l2 : Int32)  : zeRun 175 4 [some (.ref 16), some (.int l1), some (.int l2)] [] (zk B im lm) = if (im 17 1) ≤ l2 then zeRun 175 43 [some (.ref 16), some (.int l1), some (.int l2)] [] (zk B im lm) else zeRun 175 15 [some (.ref 16), some (.int l1), some (.int l2)] [] (zk B im lm) := ze_if (ok := true) rfl 5 rfl rfl
theorem d_175_43 {B : zeB} {im : Nat → Nat → Int32} {lm : Nat → Nat → Int64} (o0 : Option Value) (l1 : Int32) (o2 : Option Value)  : zeRun 175 43 [o0, some (.int l1), o2] [] (zk B im lm) = some (some (.int l1), (zk B im lm)) := ze_ret (ok := true) rfl 2 rfl rfl
theorem d_175_15 {B : zeB} {im : Nat → Nat → Int32} {lm : Nat → Nat → Int64} (l1 : Int32) (l2 : Int32) (c0 : zeInb l2 6 = true) : zeRun 175 15 [some (.ref 16), some (.int l1), some (.int l2)] [] (zk B im lm) = zeBh 175 28 [some (.ref 16), some (.int l1), some (.int l2)] [] (zeRun 153 0 [some (.ref 16), some (.int (im 33 (Int32.toNatClampNeg l2))), none, none] [] (zk B im lm)) := ze_call (ok := (zeInb l2 6 && true)) rfl 7 rfl rfl (zeA2 c0 rfl)
theorem d_175_28 {B : zeB} {im : Nat → Nat → Int32} {lm : Nat → Nat → Int64} (l1 : Int32) (l2 : Int32) (s0 : Int32)  : zeRun 175 28 [some (.ref 16), some (.int l1), some (.int l2)] [.int s0] (zk B im lm) = if s0 = 0 then zeRun 175 31 [some (.ref 16), some (.int l1), some (.int l2)] [] (zk B im lm) else zeRun 175 37 [some (.ref 16), some (.int l1), some (.int l2)] [] (zk B im lm) := ze_if (ok := true) rfl 1 rfl rfl
theorem d_175_31 {B : zeB} {im : Nat → Nat → Int32} {lm : Nat → Nat → Int64} (l1 : Int32) (l2 : Int32)  : zeRun 175 31 [some (.ref 16), some (.int l1), some (.int l2)] [] (zk B im lm) = zeRun 175 4 [some (.ref 16), some (.int (l1 ||| (1 <<< (l2 &&& 31)))), some (.int (l2 + 1))] [] (zk B im lm) := ze_go (ok := true) rfl 8 rfl rfl
theorem d_175_37 {B : zeB} {im : Nat → Nat → Int32} {lm : Nat → Nat → Int64} (l1 : Int32) (l2 : Int32)  : zeRun 175 37 [some (.ref 16), some (.int l1), some (.int l2)] [] (zk B im lm) = zeRun 175 4 [some (.ref 16), some (.int l1), some (.int (l2 + 1))] [] (zk B im lm) := ze_go (ok := true) rfl 2 rfl rfl
def F_175_4  : Nat → Int32 → Int32 → zI → zJ → zR
  | 0, _, _, _, _ => none
  | n + 1, l1, l2, im, lm =>
    if (im 17 1) ≤ l2 then
      some (l1, im, lm)
    else
      zCk (zeInb l2 6) <|
      zBd (m_153 (im 33 (Int32.toNatClampNeg l2)) im lm) fun v1 im1 lm1 =>
      F_175_4  n (if v1 = 0 then (l1 ||| (1 <<< (l2 &&& 31))) else l1) (l2 + 1) im1 lm1
theorem F_175_4_ok {B : zeB} : ∀ (n : Nat) (l1 : Int32) (l2 : Int32)  (im : zI) (lm : zJ), zL B 1 (F_175_4  n l1 l2 im lm) (zeRun 175 4 [some (.ref 16), some (.int l1), some (.int l2)] [] (zk B im lm)) := by
  intro n
  induction n with
  | zero => intros; exact zL_none
  | succ n ih =>
    intro l1 l2 im lm
    unfold F_175_4
    refine zL_if (d_175_4 _ _) (fun h => ?_) (fun h => ?_)
    · skip
      exact zL_ret (d_175_43 _ _ _)
    · skip
      refine zL_ck fun c1 => ?_
      refine zL_bd (d_175_15 _ _ c1) (m_153_ok _ _ _) fun v1 im1 lm1 => ?_
      refine zL_ifm (d_175_28 _ _ _) (fun h => ?_) (fun h => ?_)
      · repeat rw [if_pos h]
        refine zL_eq (d_175_31 _ _) ?_
        exact ih _ _ _ _
      · repeat rw [if_neg h]
        refine zL_eq (d_175_37 _ _) ?_
        exact ih _ _ _ _
def m_175  (im : zI) (lm : zJ) : zR :=
    F_175_4  2000 0 0 im lm
theorem m_175_ok {B : zeB}  (im : zI) (lm : zJ) : zL B 1 (m_175  im lm) (zeRun 175 0 [some (.ref 16), none, none] [] (zk B im lm)) := by
  unfold m_175
  refine zL_eq (d_175_0 _ _) ?_
  exact F_175_4_ok  _ _ _ _ _
/-! X7_sumOfScores -/
theorem d_176_0 {B : zeB} {im : Nat → Nat → Int32} {lm : Nat → Nat → Int64} (o1 : Option Value) (o2 : Option Value)  : zeRun 176 0 [some (.ref 16), o1, o2] [] (zk B im lm) = zeRun 176 4 [some (.ref 16), some (.int 0), some (.int 0)] [] (zk B im lm) := ze_go (ok := true) rfl 4 rfl rfl
theorem d_176_4 {B : zeB} {im : Nat → Nat → Int32} {lm : Nat → Nat → Int64} (l1 : Int32) (l2 : Int32)  : zeRun 176 4 [some (.ref 16), some (.int l1), some (.int l2)] [] (zk B im lm) = if (im 17 1) ≤ l2 then zeRun 176 33 [some (.ref 16), some (.int l1), some (.int l2)] [] (zk B im lm) else zeRun 176 15 [some (.ref 16), some (.int l1), some (.int l2)] [] (zk B im lm) := ze_if (ok := true) rfl 5 rfl rfl
theorem d_176_33 {B : zeB} {im : Nat → Nat → Int32} {lm : Nat → Nat → Int64} (o0 : Option Value) (l1 : Int32) (o2 : Option Value)  : zeRun 176 33 [o0, some (.int l1), o2] [] (zk B im lm) = some (some (.int l1), (zk B im lm)) := ze_ret (ok := true) rfl 2 rfl rfl
theorem d_176_15 {B : zeB} {im : Nat → Nat → Int32} {lm : Nat → Nat → Int64} (l1 : Int32) (l2 : Int32) (c0 : zeInb l2 6 = true) : zeRun 176 15 [some (.ref 16), some (.int l1), some (.int l2)] [] (zk B im lm) = zeRun 176 4 [some (.ref 16), some (.int (l1 + (im 33 (Int32.toNatClampNeg l2)))), some (.int (l2 + 1))] [] (zk B im lm) := ze_go (ok := (zeInb l2 6 && true)) rfl 10 rfl (zeA2 c0 rfl)
def F_176_4  : Nat → Int32 → Int32 → zI → zJ → zR
  | 0, _, _, _, _ => none
  | n + 1, l1, l2, im, lm =>
    if (im 17 1) ≤ l2 then
      some (l1, im, lm)
    else
      zCk (zeInb l2 6) <|
      F_176_4  n (l1 + (im 33 (Int32.toNatClampNeg l2))) (l2 + 1) im lm
theorem F_176_4_ok {B : zeB} : ∀ (n : Nat) (l1 : Int32) (l2 : Int32)  (im : zI) (lm : zJ), zL B 1 (F_176_4  n l1 l2 im lm) (zeRun 176 4 [some (.ref 16), some (.int l1), some (.int l2)] [] (zk B im lm)) := by
  intro n
  induction n with
  | zero => intros; exact zL_none
  | succ n ih =>
    intro l1 l2 im lm
    unfold F_176_4
    refine zL_if (d_176_4 _ _) (fun h => ?_) (fun h => ?_)
    · skip
      exact zL_ret (d_176_33 _ _ _)
    · skip
      refine zL_ck fun c1 => ?_
      refine zL_eq (d_176_15 _ _ c1) ?_
      exact ih _ _ _ _
def m_176  (im : zI) (lm : zJ) : zR :=
    F_176_4  2000 0 0 im lm
theorem m_176_ok {B : zeB}  (im : zI) (lm : zJ) : zL B 1 (m_176  im lm) (zeRun 176 0 [some (.ref 16), none, none] [] (zk B im lm)) := by
  unfold m_176
  refine zL_eq (d_176_0 _ _) ?_
  exact F_176_4_ok  _ _ _ _ _
/-! X7_count -/
theorem d_177_0 {B : zeB} {im : Nat → Nat → Int32} {lm : Nat → Nat → Int64} (l1 : Int32)  : zeRun 177 0 [some (.ref 16), some (.int l1)] [] (zk B im lm) = zeRun 177 (zeSw l1 216 [(0, 76), (1, 84), (2, 92), (3, 106), (4, 129), (5, 134), (6, 145), (7, 150), (8, 155), (9, 155), (10, 155), (11, 168), (12, 173), (13, 181), (14, 189)]) [some (.ref 16), some (.int l1)] [] (zk B im lm) := ze_go (ok := true) rfl 2 rfl rfl
theorem d_177_76 {B : zeB} {im : Nat → Nat → Int32} {lm : Nat → Nat → Int64} (o1 : Option Value)  : zeRun 177 76 [some (.ref 16), o1] [] (zk B im lm) = some (some (.int (im 17 0)), (zk B im lm)) := ze_ret (ok := true) rfl 4 rfl rfl
theorem d_177_84 {B : zeB} {im : Nat → Nat → Int32} {lm : Nat → Nat → Int64} (o1 : Option Value)  : zeRun 177 84 [some (.ref 16), o1] [] (zk B im lm) = some (some (.int (im 17 1)), (zk B im lm)) := ze_ret (ok := true) rfl 4 rfl rfl
theorem d_177_92 {B : zeB} {im : Nat → Nat → Int32} {lm : Nat → Nat → Int64} (o1 : Option Value)  : zeRun 177 92 [some (.ref 16), o1] [] (zk B im lm) = zeBh 177 104 [some (.ref 16), o1] [.int 25] (zeRun 29 0 [some (.int (im 17 3))] [] (zk B im lm)) := ze_call (ok := true) rfl 5 rfl rfl rfl
theorem d_177_104 {B : zeB} {im : Nat → Nat → Int32} {lm : Nat → Nat → Int64} (o0 : Option Value) (o1 : Option Value) (s0 : Int32) (s1 : Int32)  : zeRun 177 104 [o0, o1] [.int s1, .int s0] (zk B im lm) = some (some (.int (s0 - s1)), (zk B im lm)) := ze_ret (ok := true) rfl 2 rfl rfl
theorem d_177_106 {B : zeB} {im : Nat → Nat → Int32} {lm : Nat → Nat → Int64} (o1 : Option Value)  : zeRun 177 106 [some (.ref 16), o1] [] (zk B im lm) = zeBh 177 110 [some (.ref 16), o1] [] (zeRun 174 0 [some (.ref 16)] [] (zk B im lm)) := ze_call (ok := true) rfl 2 rfl rfl rfl
theorem d_177_110 {B : zeB} {im : Nat → Nat → Int32} {lm : Nat → Nat → Int64} (o1 : Option Value) (s0 : Int32)  : zeRun 177 110 [some (.ref 16), o1] [.int s0] (zk B im lm) = if s0 = 0 then zeRun 177 126 [some (.ref 16), o1] [] (zk B im lm) else zeRun 177 113 [some (.ref 16), o1] [] (zk B im lm) := ze_if (ok := true) rfl 1 rfl rfl
theorem d_177_126 {B : zeB} {im : Nat → Nat → Int32} {lm : Nat → Nat → Int64} (o0 : Option Value) (o1 : Option Value)  : zeRun 177 126 [o0, o1] [] (zk B im lm) = some (some (.int (-10000005)), (zk B im lm)) := ze_ret (ok := true) rfl 2 rfl rfl
theorem d_177_113 {B : zeB} {im : Nat → Nat → Int32} {lm : Nat → Nat → Int64} (o1 : Option Value)  : zeRun 177 113 [some (.ref 16), o1] [] (zk B im lm) = some (some (.int (im 19 0)), (zk B im lm)) := ze_ret (ok := true) rfl 6 rfl rfl
theorem d_177_129 {B : zeB} {im : Nat → Nat → Int32} {lm : Nat → Nat → Int64} (o1 : Option Value)  : zeRun 177 129 [some (.ref 16), o1] [] (zk B im lm) = zeBh 177 133 [some (.ref 16), o1] [] (zeRun 39 0 [some (.ref 16)] [] (zk B im lm)) := ze_call (ok := true) rfl 2 rfl rfl rfl
theorem d_177_133 {B : zeB} {im : Nat → Nat → Int32} {lm : Nat → Nat → Int64} (o0 : Option Value) (o1 : Option Value) (s0 : Int32)  : zeRun 177 133 [o0, o1] [.int s0] (zk B im lm) = some (some (.int s0), (zk B im lm)) := ze_ret (ok := true) rfl 1 rfl rfl
theorem d_177_134 {B : zeB} {im : Nat → Nat → Int32} {lm : Nat → Nat → Int64} (o1 : Option Value)  : zeRun 177 134 [some (.ref 16), o1] [] (zk B im lm) = some (some (.int (im 26 0)), (zk B im lm)) := ze_ret (ok := true) rfl 5 rfl rfl
theorem d_177_145 {B : zeB} {im : Nat → Nat → Int32} {lm : Nat → Nat → Int64} (o1 : Option Value)  : zeRun 177 145 [some (.ref 16), o1] [] (zk B im lm) = zeBh 177 149 [some (.ref 16), o1] [] (zeRun 175 0 [some (.ref 16), none, none] [] (zk B im lm)) := ze_call (ok := true) rfl 2 rfl rfl rfl
theorem d_177_149 {B : zeB} {im : Nat → Nat → Int32} {lm : Nat → Nat → Int64} (o0 : Option Value) (o1 : Option Value) (s0 : Int32)  : zeRun 177 149 [o0, o1] [.int s0] (zk B im lm) = some (some (.int s0), (zk B im lm)) := ze_ret (ok := true) rfl 1 rfl rfl
theorem d_177_150 {B : zeB} {im : Nat → Nat → Int32} {lm : Nat → Nat → Int64} (o1 : Option Value)  : zeRun 177 150 [some (.ref 16), o1] [] (zk B im lm) = zeBh 177 154 [some (.ref 16), o1] [] (zeRun 176 0 [some (.ref 16), none, none] [] (zk B im lm)) := ze_call (ok := true) rfl 2 rfl rfl rfl
theorem d_177_154 {B : zeB} {im : Nat → Nat → Int32} {lm : Nat → Nat → Int64} (o0 : Option Value) (o1 : Option Value) (s0 : Int32)  : zeRun 177 154 [o0, o1] [.int s0] (zk B im lm) = some (some (.int s0), (zk B im lm)) := ze_ret (ok := true) rfl 1 rfl rfl
theorem d_177_155 {B : zeB} {im : Nat → Nat → Int32} {lm : Nat → Nat → Int64} (l1 : Int32) (c0 : zeInb (l1 - 8) 3 = true) : zeRun 177 155 [some (.ref 16), some (.int l1)] [] (zk B im lm) = some (some (.int (im 18 (Int32.toNatClampNeg (l1 - 8)))), (zk B im lm)) := ze_ret (ok := (zeInb (l1 - 8) 3 && true)) rfl 8 rfl (zeA2 c0 rfl)
theorem d_177_168 {B : zeB} {im : Nat → Nat → Int32} {lm : Nat → Nat → Int64} (o1 : Option Value)  : zeRun 177 168 [some (.ref 16), o1] [] (zk B im lm) = some (some (.int (im 16 7)), (zk B im lm)) := ze_ret (ok := true) rfl 3 rfl rfl
theorem d_177_173 {B : zeB} {im : Nat → Nat → Int32} {lm : Nat → Nat → Int64} (o1 : Option Value)  : zeRun 177 173 [some (.ref 16), o1] [] (zk B im lm) = some (some (.int (im 42 0)), (zk B im lm)) := ze_ret (ok := true) rfl 4 rfl rfl
theorem d_177_181 {B : zeB} {im : Nat → Nat → Int32} {lm : Nat → Nat → Int64} (o1 : Option Value)  : zeRun 177 181 [some (.ref 16), o1] [] (zk B im lm) = some (some (.int (im 166 0)), (zk B im lm)) := ze_ret (ok := true) rfl 4 rfl rfl
theorem d_177_189 {B : zeB} {im : Nat → Nat → Int32} {lm : Nat → Nat → Int64} (o1 : Option Value)  : zeRun 177 189 [some (.ref 16), o1] [] (zk B im lm) = if (im 17 0) = 5 then zeRun 177 200 [some (.ref 16), o1] [] (zk B im lm) else zeRun 177 213 [some (.ref 16), o1] [] (zk B im lm) := ze_if (ok := true) rfl 5 rfl rfl
theorem d_177_200 {B : zeB} {im : Nat → Nat → Int32} {lm : Nat → Nat → Int64} (o1 : Option Value)  : zeRun 177 200 [some (.ref 16), o1] [] (zk B im lm) = zeBh 177 210 [some (.ref 16), o1] [] (zeRun 82 0 [some (.ref 23), none] [] (zk B im lm)) := ze_call (ok := true) rfl 4 rfl rfl rfl
theorem d_177_210 {B : zeB} {im : Nat → Nat → Int32} {lm : Nat → Nat → Int64} (o0 : Option Value) (o1 : Option Value) (s0 : Int32)  : zeRun 177 210 [o0, o1] [.int s0] (zk B im lm) = some (some (.int s0), (zk B im lm)) := ze_ret (ok := true) rfl 2 rfl rfl
theorem d_177_213 {B : zeB} {im : Nat → Nat → Int32} {lm : Nat → Nat → Int64} (o0 : Option Value) (o1 : Option Value)  : zeRun 177 213 [o0, o1] [] (zk B im lm) = some (some (.int (-10000005)), (zk B im lm)) := ze_ret (ok := true) rfl 2 rfl rfl
theorem d_177_216 {B : zeB} {im : Nat → Nat → Int32} {lm : Nat → Nat → Int64} (o0 : Option Value) (o1 : Option Value)  : zeRun 177 216 [o0, o1] [] (zk B im lm) = some (some (.int (-10000002)), (zk B im lm)) := ze_ret (ok := true) rfl 2 rfl rfl
def m_177 (l1 : Int32) (im : zI) (lm : zJ) : zR :=
    if l1 = 0 then
      some ((im 17 0), im, lm)
    else
      if l1 = 1 then
        some ((im 17 1), im, lm)
      else
        if l1 = 2 then
          zBd (m_29 (im 17 3) im lm) fun v1 im1 lm1 =>
          some ((25 - v1), im1, lm1)
        else
          if l1 = 3 then
            some (if (if (im 17 0) = 1 then 1 else if (im 17 0) = 2 then 1 else if (im 17 0) = 3 then 1 else 0 : Int32) = 0 then (-10000005) else (im 19 0), im, lm)
          else
            if l1 = 4 then
              some ((if (im 17 1) = 0 then (-10000005) else (im 32 0) : Int32), im, lm)
            else
              if l1 = 5 then
                some ((im 26 0), im, lm)
              else
                if l1 = 6 then
                  zBd (m_175  im lm) fun v4 im4 lm4 =>
                  some (v4, im4, lm4)
                else
                  if l1 = 7 then
                    zBd (m_176  im lm) fun v5 im5 lm5 =>
                    some (v5, im5, lm5)
                  else
                    if l1 = 8 then
                      zCk (zeInb (l1 - 8) 3) <|
                      some ((im 18 (Int32.toNatClampNeg (l1 - 8))), im, lm)
                    else
                      if l1 = 9 then
                        zCk (zeInb (l1 - 8) 3) <|
                        some ((im 18 (Int32.toNatClampNeg (l1 - 8))), im, lm)
                      else
                        if l1 = 10 then
                          zCk (zeInb (l1 - 8) 3) <|
                          some ((im 18 (Int32.toNatClampNeg (l1 - 8))), im, lm)
                        else
                          if l1 = 11 then
                            some ((im 16 7), im, lm)
                          else
                            if l1 = 12 then
                              some ((im 42 0), im, lm)
                            else
                              if l1 = 13 then
                                some ((im 166 0), im, lm)
                              else
                                if l1 = 14 then
                                  if (im 17 0) = 5 then
                                    zBd (m_82  im lm) fun v6 im6 lm6 =>
                                    some (v6, im6, lm6)
                                  else
                                    some ((-10000005), im, lm)
                                else
                                  some ((-10000002), im, lm)
theorem m_177_ok {B : zeB} (l1 : Int32) (im : zI) (lm : zJ) : zL B 1 (m_177 l1 im lm) (zeRun 177 0 [some (.ref 16), some (.int l1)] [] (zk B im lm)) := by
  unfold m_177
  refine zL_eq (d_177_0 _) ?_
  refine zL_sw (fun h => ?_) (fun h => ?_)
  · skip
    exact zL_ret (d_177_76 _)
  refine zL_sw (fun h => ?_) (fun h => ?_)
  · skip
    exact zL_ret (d_177_84 _)
  refine zL_sw (fun h => ?_) (fun h => ?_)
  · skip
    refine zL_bd (d_177_92 _) (m_29_ok _ _ _) fun v1 im1 lm1 => ?_
    exact zL_ret (d_177_104 _ _ _ _)
  refine zL_sw (fun h => ?_) (fun h => ?_)
  · skip
    refine zL_bdp (e := (if (im 17 0) = 1 then 1 else if (im 17 0) = 2 then 1 else if (im 17 0) = 3 then 1 else 0 : Int32)) (d_177_106 _) (m_174_ok _ _) ?_
    refine zL_ifm (d_177_110 _ _) (fun h => ?_) (fun h => ?_)
    · repeat rw [if_pos h]
      exact zL_ret (d_177_126 _ _)
    · repeat rw [if_neg h]
      exact zL_ret (d_177_113 _)
  refine zL_sw (fun h => ?_) (fun h => ?_)
  · skip
    refine zL_bdp (e := (if (im 17 1) = 0 then (-10000005) else (im 32 0) : Int32)) (d_177_129 _) (m_39_ok _ _) ?_
    exact zL_ret (d_177_133 _ _ _)
  refine zL_sw (fun h => ?_) (fun h => ?_)
  · skip
    exact zL_ret (d_177_134 _)
  refine zL_sw (fun h => ?_) (fun h => ?_)
  · skip
    refine zL_bd (d_177_145 _) (m_175_ok _ _) fun v4 im4 lm4 => ?_
    exact zL_ret (d_177_149 _ _ _)
  refine zL_sw (fun h => ?_) (fun h => ?_)
  · skip
    refine zL_bd (d_177_150 _) (m_176_ok _ _) fun v5 im5 lm5 => ?_
    exact zL_ret (d_177_154 _ _ _)
  refine zL_sw (fun h => ?_) (fun h => ?_)
  · skip
    refine zL_ck fun c1 => ?_
    exact zL_ret (d_177_155 _ c1)
  refine zL_sw (fun h => ?_) (fun h => ?_)
  · skip
    refine zL_ck fun c2 => ?_
    exact zL_ret (d_177_155 _ c2)
  refine zL_sw (fun h => ?_) (fun h => ?_)
  · skip
    refine zL_ck fun c3 => ?_
    exact zL_ret (d_177_155 _ c3)
  refine zL_sw (fun h => ?_) (fun h => ?_)
  · skip
    exact zL_ret (d_177_168 _)
  refine zL_sw (fun h => ?_) (fun h => ?_)
  · skip
    exact zL_ret (d_177_173 _)
  refine zL_sw (fun h => ?_) (fun h => ?_)
  · skip
    exact zL_ret (d_177_181 _)
  refine zL_sw (fun h => ?_) (fun h => ?_)
  · skip
    refine zL_if (d_177_189 _) (fun h => ?_) (fun h => ?_)
    · skip
      refine zL_bd (d_177_200 _) (m_82_ok _ _) fun v6 im6 lm6 => ?_
      exact zL_ret (d_177_210 _ _ _)
    · skip
      exact zL_ret (d_177_213 _ _)
  refine zL_swd ?_
  exact zL_ret (d_177_216 _ _)
/-! X8_leaders -/
theorem d_178_0 {B : zeB} {im : Nat → Nat → Int32} {lm : Nat → Nat → Int64} (o1 : Option Value) (o2 : Option Value)  : zeRun 178 0 [some (.ref 170), o1, o2] [] (zk B im lm) = zeRun 178 4 [some (.ref 170), some (.int 0), some (.int 0)] [] (zk B im lm) := ze_go (ok := true) rfl 4 rfl rfl
theorem d_178_4 {B : zeB} {im : Nat → Nat → Int32} {lm : Nat → Nat → Int64} (l1 : Int32) (l2 : Int32)  : zeRun 178 4 [some (.ref 170), some (.int l1), some (.int l2)] [] (zk B im lm) = if (im 171 1) ≤ l2 then zeRun 178 39 [some (.ref 170), some (.int l1), some (.int l2)] [] (zk B im lm) else zeRun 178 14 [some (.ref 170), some (.int l1), some (.int l2)] [] (zk B im lm) := ze_if (ok := true) rfl 6 rfl rfl
theorem d_178_39 {B : zeB} {im : Nat → Nat → Int32} {lm : Nat → Nat → Int64} (o0 : Option Value) (l1 : Int32) (o2 : Option Value)  : zeRun 178 39 [o0, some (.int l1), o2] [] (zk B im lm) = some (some (.int l1), (zk B im lm)) := ze_ret (ok := true) rfl 2 rfl rfl
theorem d_178_14 {B : zeB} {im : Nat → Nat → Int32} {lm : Nat → Nat → Int64} (l1 : Int32) (l2 : Int32)  : zeRun 178 14 [some (.ref 170), some (.int l1), some (.int l2)] [] (zk B im lm) = zeBh 178 20 [some (.ref 170), some (.int l1), some (.int l2)] [.int l1] (zeRun 157 0 [some (.ref 170), some (.int l2), none, none] [] (zk B im lm)) := ze_call (ok := true) rfl 4 rfl rfl rfl
theorem d_178_20 {B : zeB} {im : Nat → Nat → Int32} {lm : Nat → Nat → Int64} (o1 : Option Value) (l2 : Int32) (s0 : Int32) (s1 : Int32)  : zeRun 178 20 [some (.ref 170), o1, some (.int l2)] [.int s1, .int s0] (zk B im lm) = if s1 = 1 then zeRun 178 24 [some (.ref 170), o1, some (.int l2)] [.int s0] (zk B im lm) else zeRun 178 30 [some (.ref 170), o1, some (.int l2)] [.int s0] (zk B im lm) := ze_if (ok := true) rfl 2 rfl rfl
theorem d_178_24 {B : zeB} {im : Nat → Nat → Int32} {lm : Nat → Nat → Int64} (o1 : Option Value) (l2 : Int32) (s0 : Int32)  : zeRun 178 24 [some (.ref 170), o1, some (.int l2)] [.int s0] (zk B im lm) = zeRun 178 4 [some (.ref 170), some (.int (s0 ||| (1 <<< (l2 &&& 31)))), some (.int (l2 + 1))] [] (zk B im lm) := ze_go (ok := true) rfl 8 rfl rfl
theorem d_178_30 {B : zeB} {im : Nat → Nat → Int32} {lm : Nat → Nat → Int64} (o1 : Option Value) (l2 : Int32) (s0 : Int32)  : zeRun 178 30 [some (.ref 170), o1, some (.int l2)] [.int s0] (zk B im lm) = zeRun 178 4 [some (.ref 170), some (.int (s0 ||| 0)), some (.int (l2 + 1))] [] (zk B im lm) := ze_go (ok := true) rfl 5 rfl rfl
def F_178_4  : Nat → Int32 → Int32 → zI → zJ → zR
  | 0, _, _, _, _ => none
  | n + 1, l1, l2, im, lm =>
    if (im 171 1) ≤ l2 then
      some (l1, im, lm)
    else
      zBd (m_157 l2 im lm) fun v1 im1 lm1 =>
      F_178_4  n (if v1 = 1 then (l1 ||| (1 <<< (l2 &&& 31))) else (l1 ||| 0)) (l2 + 1) im1 lm1
theorem F_178_4_ok {B : zeB} : ∀ (n : Nat) (l1 : Int32) (l2 : Int32)  (im : zI) (lm : zJ), zL B 1 (F_178_4  n l1 l2 im lm) (zeRun 178 4 [some (.ref 170), some (.int l1), some (.int l2)] [] (zk B im lm)) := by
  intro n
  induction n with
  | zero => intros; exact zL_none
  | succ n ih =>
    intro l1 l2 im lm
    unfold F_178_4
    refine zL_if (d_178_4 _ _) (fun h => ?_) (fun h => ?_)
    · skip
      exact zL_ret (d_178_39 _ _ _)
    · skip
      refine zL_bd (d_178_14 _ _) (m_157_ok _ _ _) fun v1 im1 lm1 => ?_
      refine zL_ifm (d_178_20 _ _ _ _) (fun h => ?_) (fun h => ?_)
      · repeat rw [if_pos h]
        refine zL_eq (d_178_24 _ _ _) ?_
        exact ih _ _ _ _
      · repeat rw [if_neg h]
        refine zL_eq (d_178_30 _ _ _) ?_
        exact ih _ _ _ _
def m_178  (im : zI) (lm : zJ) : zR :=
    F_178_4  2000 0 0 im lm
theorem m_178_ok {B : zeB}  (im : zI) (lm : zJ) : zL B 1 (m_178  im lm) (zeRun 178 0 [some (.ref 170), none, none] [] (zk B im lm)) := by
  unfold m_178
  refine zL_eq (d_178_0 _ _) ?_
  exact F_178_4_ok  _ _ _ _ _
/-! X8_count -/
theorem d_179_0 {B : zeB} {im : Nat → Nat → Int32} {lm : Nat → Nat → Int64} (l1 : Int32)  : zeRun 179 0 [some (.ref 170), some (.int l1)] [] (zk B im lm) = zeBh 179 4 [some (.ref 170), some (.int l1)] [] (zeRun 47 0 [some (.ref 170), none, none, none, none, none, none] [] (zk B im lm)) := ze_call (ok := true) rfl 2 rfl rfl rfl
theorem d_179_4 {B : zeB} {im : Nat → Nat → Int32} {lm : Nat → Nat → Int64} (l1 : Int32)  : zeRun 179 4 [some (.ref 170), some (.int l1)] [] (zk B im lm) = zeRun 179 (zeSw l1 228 [(0, 80), (1, 87), (2, 94), (3, 108), (4, 118), (5, 123), (6, 130), (7, 135), (8, 177), (9, 177), (10, 177), (11, 190), (12, 195), (13, 200), (14, 205)]) [some (.ref 170), some (.int l1)] [] (zk B im lm) := ze_go (ok := true) rfl 2 rfl rfl
theorem d_179_80 {B : zeB} {im : Nat → Nat → Int32} {lm : Nat → Nat → Int64} (o1 : Option Value)  : zeRun 179 80 [some (.ref 170), o1] [] (zk B im lm) = some (some (.int (im 171 0)), (zk B im lm)) := ze_ret (ok := true) rfl 5 rfl rfl
theorem d_179_87 {B : zeB} {im : Nat → Nat → Int32} {lm : Nat → Nat → Int64} (o1 : Option Value)  : zeRun 179 87 [some (.ref 170), o1] [] (zk B im lm) = some (some (.int (im 171 1)), (zk B im lm)) := ze_ret (ok := true) rfl 5 rfl rfl
theorem d_179_94 {B : zeB} {im : Nat → Nat → Int32} {lm : Nat → Nat → Int64} (o1 : Option Value)  : zeRun 179 94 [some (.ref 170), o1] [] (zk B im lm) = zeBh 179 106 [some (.ref 170), o1] [.int 25] (zeRun 33 0 [some (.int (im 171 10)), none, none] [] (zk B im lm)) := ze_call (ok := true) rfl 6 rfl rfl rfl
theorem d_179_106 {B : zeB} {im : Nat → Nat → Int32} {lm : Nat → Nat → Int64} (o0 : Option Value) (o1 : Option Value) (s0 : Int32) (s1 : Int32)  : zeRun 179 106 [o0, o1] [.int s1, .int s0] (zk B im lm) = some (some (.int (s0 - s1)), (zk B im lm)) := ze_ret (ok := true) rfl 2 rfl rfl
theorem d_179_108 {B : zeB} {im : Nat → Nat → Int32} {lm : Nat → Nat → Int64} (o1 : Option Value)  : zeRun 179 108 [some (.ref 170), o1] [] (zk B im lm) = zeBh 179 117 [some (.ref 170), o1] [] (zeRun 160 0 [some (.int (im 171 2))] [] (zk B im lm)) := ze_call (ok := true) rfl 5 rfl rfl rfl
theorem d_179_117 {B : zeB} {im : Nat → Nat → Int32} {lm : Nat → Nat → Int64} (o0 : Option Value) (o1 : Option Value) (s0 : Int32)  : zeRun 179 117 [o0, o1] [.int s0] (zk B im lm) = some (some (.int s0), (zk B im lm)) := ze_ret (ok := true) rfl 1 rfl rfl
theorem d_179_118 {B : zeB} {im : Nat → Nat → Int32} {lm : Nat → Nat → Int64} (o1 : Option Value)  : zeRun 179 118 [some (.ref 170), o1] [] (zk B im lm) = some (some (.int (im 170 13)), (zk B im lm)) := ze_ret (ok := true) rfl 3 rfl rfl
theorem d_179_123 {B : zeB} {im : Nat → Nat → Int32} {lm : Nat → Nat → Int64} (o1 : Option Value)  : zeRun 179 123 [some (.ref 170), o1] [] (zk B im lm) = some (some (.int (im 171 5)), (zk B im lm)) := ze_ret (ok := true) rfl 5 rfl rfl
theorem d_179_130 {B : zeB} {im : Nat → Nat → Int32} {lm : Nat → Nat → Int64} (o1 : Option Value)  : zeRun 179 130 [some (.ref 170), o1] [] (zk B im lm) = zeBh 179 134 [some (.ref 170), o1] [] (zeRun 178 0 [some (.ref 170), none, none] [] (zk B im lm)) := ze_call (ok := true) rfl 2 rfl rfl rfl
theorem d_179_134 {B : zeB} {im : Nat → Nat → Int32} {lm : Nat → Nat → Int64} (o0 : Option Value) (o1 : Option Value) (s0 : Int32)  : zeRun 179 134 [o0, o1] [.int s0] (zk B im lm) = some (some (.int s0), (zk B im lm)) := ze_ret (ok := true) rfl 1 rfl rfl
theorem d_179_135 {B : zeB} {im : Nat → Nat → Int32} {lm : Nat → Nat → Int64} (o1 : Option Value)  : zeRun 179 135 [some (.ref 170), o1] [] (zk B im lm) = some (some (.int ((((((im 175 0) + (im 175 1)) + (im 175 2)) + (im 175 3)) + (im 175 4)) + (im 175 5))), (zk B im lm)) := ze_ret (ok := true) rfl 30 rfl rfl
theorem d_179_177 {B : zeB} {im : Nat → Nat → Int32} {lm : Nat → Nat → Int64} (l1 : Int32) (c0 : zeInb ((6 + l1) - 8) 360 = true) : zeRun 179 177 [some (.ref 170), some (.int l1)] [] (zk B im lm) = some (some (.int (im 171 (Int32.toNatClampNeg ((6 + l1) - 8)))), (zk B im lm)) := ze_ret (ok := (zeInb ((6 + l1) - 8) 360 && true)) rfl 9 rfl (zeA2 c0 rfl)
theorem d_179_190 {B : zeB} {im : Nat → Nat → Int32} {lm : Nat → Nat → Int64} (o1 : Option Value)  : zeRun 179 190 [some (.ref 170), o1] [] (zk B im lm) = some (some (.int (im 170 5)), (zk B im lm)) := ze_ret (ok := true) rfl 3 rfl rfl
theorem d_179_195 {B : zeB} {im : Nat → Nat → Int32} {lm : Nat → Nat → Int64} (o1 : Option Value)  : zeRun 179 195 [some (.ref 170), o1] [] (zk B im lm) = some (some (.int (im 170 2)), (zk B im lm)) := ze_ret (ok := true) rfl 3 rfl rfl
theorem d_179_200 {B : zeB} {im : Nat → Nat → Int32} {lm : Nat → Nat → Int64} (o1 : Option Value)  : zeRun 179 200 [some (.ref 170), o1] [] (zk B im lm) = some (some (.int (im 170 16)), (zk B im lm)) := ze_ret (ok := true) rfl 3 rfl rfl
theorem d_179_205 {B : zeB} {im : Nat → Nat → Int32} {lm : Nat → Nat → Int64} (o1 : Option Value)  : zeRun 179 205 [some (.ref 170), o1] [] (zk B im lm) = if (im 171 0) = 5 then zeRun 179 215 [some (.ref 170), o1] [] (zk B im lm) else zeRun 179 225 [some (.ref 170), o1] [] (zk B im lm) := ze_if (ok := true) rfl 6 rfl rfl
theorem d_179_215 {B : zeB} {im : Nat → Nat → Int32} {lm : Nat → Nat → Int64} (o1 : Option Value)  : zeRun 179 215 [some (.ref 170), o1] [] (zk B im lm) = zeBh 179 219 [some (.ref 170), o1] [] (zeRun 88 0 [some (.ref 170), none, none, none] [] (zk B im lm)) := ze_call (ok := true) rfl 2 rfl rfl rfl
theorem d_179_219 {B : zeB} {im : Nat → Nat → Int32} {lm : Nat → Nat → Int64} (o0 : Option Value) (o1 : Option Value) (s0 : Int32)  : zeRun 179 219 [o0, o1] [.int s0] (zk B im lm) = zeBh 179 222 [o0, o1] [] (zeRun 160 0 [some (.int s0)] [] (zk B im lm)) := ze_call (ok := true) rfl 1 rfl rfl rfl
theorem d_179_222 {B : zeB} {im : Nat → Nat → Int32} {lm : Nat → Nat → Int64} (o0 : Option Value) (o1 : Option Value) (s0 : Int32)  : zeRun 179 222 [o0, o1] [.int s0] (zk B im lm) = some (some (.int s0), (zk B im lm)) := ze_ret (ok := true) rfl 2 rfl rfl
theorem d_179_225 {B : zeB} {im : Nat → Nat → Int32} {lm : Nat → Nat → Int64} (o0 : Option Value) (o1 : Option Value)  : zeRun 179 225 [o0, o1] [] (zk B im lm) = some (some (.int (-10000005)), (zk B im lm)) := ze_ret (ok := true) rfl 2 rfl rfl
theorem d_179_228 {B : zeB} {im : Nat → Nat → Int32} {lm : Nat → Nat → Int64} (o0 : Option Value) (o1 : Option Value)  : zeRun 179 228 [o0, o1] [] (zk B im lm) = some (some (.int (-10000002)), (zk B im lm)) := ze_ret (ok := true) rfl 2 rfl rfl
def m_179 (l1 : Int32) (im : zI) (lm : zJ) : zR :=
    zBd (m_47  im lm) fun _ im1 lm1 =>
    if l1 = 0 then
      some ((im1 171 0), im1, lm1)
    else
      if l1 = 1 then
        some ((im1 171 1), im1, lm1)
      else
        if l1 = 2 then
          zBd (m_33 (im1 171 10) im1 lm1) fun v2 im2 lm2 =>
          some ((25 - v2), im2, lm2)
        else
          if l1 = 3 then
            some ((if 0 ≤ (im1 171 2) then (im1 171 2) else (-10000005) : Int32), im1, lm1)
          else
            if l1 = 4 then
              some ((im1 170 13), im1, lm1)
            else
              if l1 = 5 then
                some ((im1 171 5), im1, lm1)
              else
                if l1 = 6 then
                  zBd (m_178  im1 lm1) fun v4 im4 lm4 =>
                  some (v4, im4, lm4)
                else
                  if l1 = 7 then
                    some (((((((im1 175 0) + (im1 175 1)) + (im1 175 2)) + (im1 175 3)) + (im1 175 4)) + (im1 175 5)), im1, lm1)
                  else
                    if l1 = 8 then
                      zCk (zeInb ((6 + l1) - 8) 360) <|
                      some ((im1 171 (Int32.toNatClampNeg ((6 + l1) - 8))), im1, lm1)
                    else
                      if l1 = 9 then
                        zCk (zeInb ((6 + l1) - 8) 360) <|
                        some ((im1 171 (Int32.toNatClampNeg ((6 + l1) - 8))), im1, lm1)
                      else
                        if l1 = 10 then
                          zCk (zeInb ((6 + l1) - 8) 360) <|
                          some ((im1 171 (Int32.toNatClampNeg ((6 + l1) - 8))), im1, lm1)
                        else
                          if l1 = 11 then
                            some ((im1 170 5), im1, lm1)
                          else
                            if l1 = 12 then
                              some ((im1 170 2), im1, lm1)
                            else
                              if l1 = 13 then
                                some ((im1 170 16), im1, lm1)
                              else
                                if l1 = 14 then
                                  if (im1 171 0) = 5 then
                                    zBd (m_88  im1 lm1) fun v5 im5 lm5 =>
                                    some ((if 0 ≤ v5 then v5 else (-10000005) : Int32), im5, lm5)
                                  else
                                    some ((-10000005), im1, lm1)
                                else
                                  some ((-10000002), im1, lm1)
theorem m_179_ok {B : zeB} (l1 : Int32) (im : zI) (lm : zJ) : zL B 1 (m_179 l1 im lm) (zeRun 179 0 [some (.ref 170), some (.int l1)] [] (zk B im lm)) := by
  unfold m_179
  refine zL_bdv (d_179_0 _) (m_47_ok _ _) fun _ im1 lm1 => ?_
  refine zL_eq (d_179_4 _) ?_
  refine zL_sw (fun h => ?_) (fun h => ?_)
  · skip
    exact zL_ret (d_179_80 _)
  refine zL_sw (fun h => ?_) (fun h => ?_)
  · skip
    exact zL_ret (d_179_87 _)
  refine zL_sw (fun h => ?_) (fun h => ?_)
  · skip
    refine zL_bd (d_179_94 _) (m_33_ok _ _ _) fun v2 im2 lm2 => ?_
    exact zL_ret (d_179_106 _ _ _ _)
  refine zL_sw (fun h => ?_) (fun h => ?_)
  · skip
    refine zL_bdp (e := (if 0 ≤ (im1 171 2) then (im1 171 2) else (-10000005) : Int32)) (d_179_108 _) (m_160_ok _ _ _) ?_
    exact zL_ret (d_179_117 _ _ _)
  refine zL_sw (fun h => ?_) (fun h => ?_)
  · skip
    exact zL_ret (d_179_118 _)
  refine zL_sw (fun h => ?_) (fun h => ?_)
  · skip
    exact zL_ret (d_179_123 _)
  refine zL_sw (fun h => ?_) (fun h => ?_)
  · skip
    refine zL_bd (d_179_130 _) (m_178_ok _ _) fun v4 im4 lm4 => ?_
    exact zL_ret (d_179_134 _ _ _)
  refine zL_sw (fun h => ?_) (fun h => ?_)
  · skip
    exact zL_ret (d_179_135 _)
  refine zL_sw (fun h => ?_) (fun h => ?_)
  · skip
    refine zL_ck fun c1 => ?_
    exact zL_ret (d_179_177 _ c1)
  refine zL_sw (fun h => ?_) (fun h => ?_)
  · skip
    refine zL_ck fun c2 => ?_
    exact zL_ret (d_179_177 _ c2)
  refine zL_sw (fun h => ?_) (fun h => ?_)
  · skip
    refine zL_ck fun c3 => ?_
    exact zL_ret (d_179_177 _ c3)
  refine zL_sw (fun h => ?_) (fun h => ?_)
  · skip
    exact zL_ret (d_179_190 _)
  refine zL_sw (fun h => ?_) (fun h => ?_)
  · skip
    exact zL_ret (d_179_195 _)
  refine zL_sw (fun h => ?_) (fun h => ?_)
  · skip
    exact zL_ret (d_179_200 _)
  refine zL_sw (fun h => ?_) (fun h => ?_)
  · skip
    refine zL_if (d_179_205 _) (fun h => ?_) (fun h => ?_)
    · skip
      refine zL_bd (d_179_215 _) (m_88_ok _ _) fun v5 im5 lm5 => ?_
      refine zL_bdp (e := (if 0 ≤ v5 then v5 else (-10000005) : Int32)) (d_179_219 _ _ _) (m_160_ok _ _ _) ?_
      exact zL_ret (d_179_222 _ _ _)
    · skip
      exact zL_ret (d_179_225 _ _)
  refine zL_swd ?_
  exact zL_ret (d_179_228 _ _)
/-! J0_coder_7d493_4 -/
theorem d_187_4_0 {B : zeB} {im : Nat → Nat → Int32} {lm : Nat → Nat → Int64}   : zeRun 187 0 [some (.ref 4)] [] (zk B im lm) = if (1 : Int32) = 0 then zeRun 187 13 [some (.ref 4)] [] (zk B im lm) else zeRun 187 6 [some (.ref 4)] [] (zk B im lm) := ze_if (ok := true) rfl 2 rfl rfl
theorem d_187_4_13 {B : zeB} {im : Nat → Nat → Int32} {lm : Nat → Nat → Int64} (o0 : Option Value)  : zeRun 187 13 [o0] [] (zk B im lm) = some (some (.int 1), (zk B im lm)) := ze_ret (ok := true) rfl 2 rfl rfl
theorem d_187_4_6 {B : zeB} {im : Nat → Nat → Int32} {lm : Nat → Nat → Int64}  (c0 : zeNok FieldType.byte (im 4 1) = true) : zeRun 187 6 [some (.ref 4)] [] (zk B im lm) = some (some (.int (im 4 1)), (zk B im lm)) := ze_ret (ok := (zeNok FieldType.byte (im 4 1) && true)) rfl 4 rfl (zeA2 c0 rfl)
def m_187_4  (im : zI) (lm : zJ) : zR :=
    zCk (if (1 : Int32) = 0 then true else zeNok FieldType.byte (im 4 1)) <|
    some (if (1 : Int32) = 0 then 1 else (im 4 1), im, lm)
theorem m_187_4_ok {B : zeB}  (im : zI) (lm : zJ) : zL B 1 (m_187_4  im lm) (zeRun 187 0 [some (.ref 4)] [] (zk B im lm)) := by
  unfold m_187_4
  refine zL_ifm d_187_4_0 (fun h => ?_) (fun h => ?_)
  · repeat rw [if_pos h]
    refine zL_ckt ?_
    exact zL_ret (d_187_4_13 _)
  · repeat rw [if_neg h]
    refine zL_ck fun c1 => ?_
    exact zL_ret (d_187_4_6 c1)
/-! J0_coder_7d493_6 -/
theorem d_187_6_0 {B : zeB} {im : Nat → Nat → Int32} {lm : Nat → Nat → Int64}   : zeRun 187 0 [some (.ref 6)] [] (zk B im lm) = if (1 : Int32) = 0 then zeRun 187 13 [some (.ref 6)] [] (zk B im lm) else zeRun 187 6 [some (.ref 6)] [] (zk B im lm) := ze_if (ok := true) rfl 2 rfl rfl
theorem d_187_6_13 {B : zeB} {im : Nat → Nat → Int32} {lm : Nat → Nat → Int64} (o0 : Option Value)  : zeRun 187 13 [o0] [] (zk B im lm) = some (some (.int 1), (zk B im lm)) := ze_ret (ok := true) rfl 2 rfl rfl
theorem d_187_6_6 {B : zeB} {im : Nat → Nat → Int32} {lm : Nat → Nat → Int64}  (c0 : zeNok FieldType.byte (im 6 1) = true) : zeRun 187 6 [some (.ref 6)] [] (zk B im lm) = some (some (.int (im 6 1)), (zk B im lm)) := ze_ret (ok := (zeNok FieldType.byte (im 6 1) && true)) rfl 4 rfl (zeA2 c0 rfl)
def m_187_6  (im : zI) (lm : zJ) : zR :=
    zCk (if (1 : Int32) = 0 then true else zeNok FieldType.byte (im 6 1)) <|
    some (if (1 : Int32) = 0 then 1 else (im 6 1), im, lm)
theorem m_187_6_ok {B : zeB}  (im : zI) (lm : zJ) : zL B 1 (m_187_6  im lm) (zeRun 187 0 [some (.ref 6)] [] (zk B im lm)) := by
  unfold m_187_6
  refine zL_ifm d_187_6_0 (fun h => ?_) (fun h => ?_)
  · repeat rw [if_pos h]
    refine zL_ckt ?_
    exact zL_ret (d_187_6_13 _)
  · repeat rw [if_neg h]
    refine zL_ck fun c1 => ?_
    exact zL_ret (d_187_6_6 c1)
/-! J0_coder_7d493_2 -/
theorem d_187_2_0 {B : zeB} {im : Nat → Nat → Int32} {lm : Nat → Nat → Int64}   : zeRun 187 0 [some (.ref 2)] [] (zk B im lm) = if (1 : Int32) = 0 then zeRun 187 13 [some (.ref 2)] [] (zk B im lm) else zeRun 187 6 [some (.ref 2)] [] (zk B im lm) := ze_if (ok := true) rfl 2 rfl rfl
theorem d_187_2_13 {B : zeB} {im : Nat → Nat → Int32} {lm : Nat → Nat → Int64} (o0 : Option Value)  : zeRun 187 13 [o0] [] (zk B im lm) = some (some (.int 1), (zk B im lm)) := ze_ret (ok := true) rfl 2 rfl rfl
theorem d_187_2_6 {B : zeB} {im : Nat → Nat → Int32} {lm : Nat → Nat → Int64}  (c0 : zeNok FieldType.byte (im 2 1) = true) : zeRun 187 6 [some (.ref 2)] [] (zk B im lm) = some (some (.int (im 2 1)), (zk B im lm)) := ze_ret (ok := (zeNok FieldType.byte (im 2 1) && true)) rfl 4 rfl (zeA2 c0 rfl)
def m_187_2  (im : zI) (lm : zJ) : zR :=
    zCk (if (1 : Int32) = 0 then true else zeNok FieldType.byte (im 2 1)) <|
    some (if (1 : Int32) = 0 then 1 else (im 2 1), im, lm)
theorem m_187_2_ok {B : zeB}  (im : zI) (lm : zJ) : zL B 1 (m_187_2  im lm) (zeRun 187 0 [some (.ref 2)] [] (zk B im lm)) := by
  unfold m_187_2
  refine zL_ifm d_187_2_0 (fun h => ?_) (fun h => ?_)
  · repeat rw [if_pos h]
    refine zL_ckt ?_
    exact zL_ret (d_187_2_13 _)
  · repeat rw [if_neg h]
    refine zL_ck fun c1 => ?_
    exact zL_ret (d_187_2_6 c1)
/-! J0_length_8abf5_4 -/
theorem d_188_4_0 {B : zeB} {im : Nat → Nat → Int32} {lm : Nat → Nat → Int64}   : zeRun 188 0 [some (.ref 4)] [] (zk B im lm) = zeBh 188 9 [some (.ref 4)] [.int 6] (zeRun 187 0 [some (.ref 4)] [] (zk B im lm)) := ze_call (ok := true) rfl 5 rfl rfl rfl
theorem d_188_4_9 {B : zeB} {im : Nat → Nat → Int32} {lm : Nat → Nat → Int64} (o0 : Option Value) (s0 : Int32) (s1 : Int32)  : zeRun 188 9 [o0] [.int s1, .int s0] (zk B im lm) = some (some (.int (s0 >>> (s1 &&& 31))), (zk B im lm)) := ze_ret (ok := true) rfl 2 rfl rfl
def m_188_4  (im : zI) (lm : zJ) : zR :=
    zBd (m_187_4  im lm) fun v1 im1 lm1 =>
    some ((6 >>> (v1 &&& 31)), im1, lm1)
theorem m_188_4_ok {B : zeB}  (im : zI) (lm : zJ) : zL B 1 (m_188_4  im lm) (zeRun 188 0 [some (.ref 4)] [] (zk B im lm)) := by
  unfold m_188_4
  refine zL_bd d_188_4_0 (m_187_4_ok _ _) fun v1 im1 lm1 => ?_
  exact zL_ret (d_188_4_9 _ _ _)
/-! J0_length_8abf5_6 -/
theorem d_188_6_0 {B : zeB} {im : Nat → Nat → Int32} {lm : Nat → Nat → Int64}   : zeRun 188 0 [some (.ref 6)] [] (zk B im lm) = zeBh 188 9 [some (.ref 6)] [.int 3] (zeRun 187 0 [some (.ref 6)] [] (zk B im lm)) := ze_call (ok := true) rfl 5 rfl rfl rfl
theorem d_188_6_9 {B : zeB} {im : Nat → Nat → Int32} {lm : Nat → Nat → Int64} (o0 : Option Value) (s0 : Int32) (s1 : Int32)  : zeRun 188 9 [o0] [.int s1, .int s0] (zk B im lm) = some (some (.int (s0 >>> (s1 &&& 31))), (zk B im lm)) := ze_ret (ok := true) rfl 2 rfl rfl
def m_188_6  (im : zI) (lm : zJ) : zR :=
    zBd (m_187_6  im lm) fun v1 im1 lm1 =>
    some ((3 >>> (v1 &&& 31)), im1, lm1)
theorem m_188_6_ok {B : zeB}  (im : zI) (lm : zJ) : zL B 1 (m_188_6  im lm) (zeRun 188 0 [some (.ref 6)] [] (zk B im lm)) := by
  unfold m_188_6
  refine zL_bd d_188_6_0 (m_187_6_ok _ _) fun v1 im1 lm1 => ?_
  exact zL_ret (d_188_6_9 _ _ _)
/-! J0_length_8abf5_2 -/
theorem d_188_2_0 {B : zeB} {im : Nat → Nat → Int32} {lm : Nat → Nat → Int64}   : zeRun 188 0 [some (.ref 2)] [] (zk B im lm) = zeBh 188 9 [some (.ref 2)] [.int 1] (zeRun 187 0 [some (.ref 2)] [] (zk B im lm)) := ze_call (ok := true) rfl 5 rfl rfl rfl
theorem d_188_2_9 {B : zeB} {im : Nat → Nat → Int32} {lm : Nat → Nat → Int64} (o0 : Option Value) (s0 : Int32) (s1 : Int32)  : zeRun 188 9 [o0] [.int s1, .int s0] (zk B im lm) = some (some (.int (s0 >>> (s1 &&& 31))), (zk B im lm)) := ze_ret (ok := true) rfl 2 rfl rfl
def m_188_2  (im : zI) (lm : zJ) : zR :=
    zBd (m_187_2  im lm) fun v1 im1 lm1 =>
    some ((1 >>> (v1 &&& 31)), im1, lm1)
theorem m_188_2_ok {B : zeB}  (im : zI) (lm : zJ) : zL B 1 (m_188_2  im lm) (zeRun 188 0 [some (.ref 2)] [] (zk B im lm)) := by
  unfold m_188_2
  refine zL_bd d_188_2_0 (m_187_2_ok _ _) fun v1 im1 lm1 => ?_
  exact zL_ret (d_188_2_9 _ _ _)
/-! J0_isLatin1_aae02_4 -/
theorem d_180_4_0 {B : zeB} {im : Nat → Nat → Int32} {lm : Nat → Nat → Int64}   : zeRun 180 0 [some (.ref 4)] [] (zk B im lm) = if (1 : Int32) = 0 then zeRun 180 17 [some (.ref 4)] [] (zk B im lm) else zeRun 180 6 [some (.ref 4)] [] (zk B im lm) := ze_if (ok := true) rfl 2 rfl rfl
theorem d_180_4_17 {B : zeB} {im : Nat → Nat → Int32} {lm : Nat → Nat → Int64} (o0 : Option Value)  : zeRun 180 17 [o0] [] (zk B im lm) = some (some (.int 0), (zk B im lm)) := ze_ret (ok := true) rfl 2 rfl rfl
theorem d_180_4_6 {B : zeB} {im : Nat → Nat → Int32} {lm : Nat → Nat → Int64}   : zeRun 180 6 [some (.ref 4)] [] (zk B im lm) = if (im 4 1) = 0 then zeRun 180 13 [some (.ref 4)] [] (zk B im lm) else zeRun 180 17 [some (.ref 4)] [] (zk B im lm) := ze_if (ok := true) rfl 3 rfl rfl
theorem d_180_4_13 {B : zeB} {im : Nat → Nat → Int32} {lm : Nat → Nat → Int64} (o0 : Option Value)  : zeRun 180 13 [o0] [] (zk B im lm) = some (some (.int 1), (zk B im lm)) := ze_ret (ok := true) rfl 3 rfl rfl
def m_180_4  (im : zI) (lm : zJ) : zR :=
    some (if (1 : Int32) = 0 then 0 else if (im 4 1) = 0 then 1 else 0, im, lm)
theorem m_180_4_ok {B : zeB}  (im : zI) (lm : zJ) : zL B 1 (m_180_4  im lm) (zeRun 180 0 [some (.ref 4)] [] (zk B im lm)) := by
  unfold m_180_4
  refine zL_ifm d_180_4_0 (fun h => ?_) (fun h => ?_)
  · repeat rw [if_pos h]
    exact zL_ret (d_180_4_17 _)
  · repeat rw [if_neg h]
    refine zL_ifm d_180_4_6 (fun h => ?_) (fun h => ?_)
    · repeat rw [if_pos h]
      exact zL_ret (d_180_4_13 _)
    · repeat rw [if_neg h]
      exact zL_ret (d_180_4_17 _)
/-! J0_isLatin1_aae02_6 -/
theorem d_180_6_0 {B : zeB} {im : Nat → Nat → Int32} {lm : Nat → Nat → Int64}   : zeRun 180 0 [some (.ref 6)] [] (zk B im lm) = if (1 : Int32) = 0 then zeRun 180 17 [some (.ref 6)] [] (zk B im lm) else zeRun 180 6 [some (.ref 6)] [] (zk B im lm) := ze_if (ok := true) rfl 2 rfl rfl
theorem d_180_6_17 {B : zeB} {im : Nat → Nat → Int32} {lm : Nat → Nat → Int64} (o0 : Option Value)  : zeRun 180 17 [o0] [] (zk B im lm) = some (some (.int 0), (zk B im lm)) := ze_ret (ok := true) rfl 2 rfl rfl
theorem d_180_6_6 {B : zeB} {im : Nat → Nat → Int32} {lm : Nat → Nat → Int64}   : zeRun 180 6 [some (.ref 6)] [] (zk B im lm) = if (im 6 1) = 0 then zeRun 180 13 [some (.ref 6)] [] (zk B im lm) else zeRun 180 17 [some (.ref 6)] [] (zk B im lm) := ze_if (ok := true) rfl 3 rfl rfl
theorem d_180_6_13 {B : zeB} {im : Nat → Nat → Int32} {lm : Nat → Nat → Int64} (o0 : Option Value)  : zeRun 180 13 [o0] [] (zk B im lm) = some (some (.int 1), (zk B im lm)) := ze_ret (ok := true) rfl 3 rfl rfl
def m_180_6  (im : zI) (lm : zJ) : zR :=
    some (if (1 : Int32) = 0 then 0 else if (im 6 1) = 0 then 1 else 0, im, lm)
theorem m_180_6_ok {B : zeB}  (im : zI) (lm : zJ) : zL B 1 (m_180_6  im lm) (zeRun 180 0 [some (.ref 6)] [] (zk B im lm)) := by
  unfold m_180_6
  refine zL_ifm d_180_6_0 (fun h => ?_) (fun h => ?_)
  · repeat rw [if_pos h]
    exact zL_ret (d_180_6_17 _)
  · repeat rw [if_neg h]
    refine zL_ifm d_180_6_6 (fun h => ?_) (fun h => ?_)
    · repeat rw [if_pos h]
      exact zL_ret (d_180_6_13 _)
    · repeat rw [if_neg h]
      exact zL_ret (d_180_6_17 _)
/-! J0_isLatin1_aae02_2 -/
theorem d_180_2_0 {B : zeB} {im : Nat → Nat → Int32} {lm : Nat → Nat → Int64}   : zeRun 180 0 [some (.ref 2)] [] (zk B im lm) = if (1 : Int32) = 0 then zeRun 180 17 [some (.ref 2)] [] (zk B im lm) else zeRun 180 6 [some (.ref 2)] [] (zk B im lm) := ze_if (ok := true) rfl 2 rfl rfl
theorem d_180_2_17 {B : zeB} {im : Nat → Nat → Int32} {lm : Nat → Nat → Int64} (o0 : Option Value)  : zeRun 180 17 [o0] [] (zk B im lm) = some (some (.int 0), (zk B im lm)) := ze_ret (ok := true) rfl 2 rfl rfl
theorem d_180_2_6 {B : zeB} {im : Nat → Nat → Int32} {lm : Nat → Nat → Int64}   : zeRun 180 6 [some (.ref 2)] [] (zk B im lm) = if (im 2 1) = 0 then zeRun 180 13 [some (.ref 2)] [] (zk B im lm) else zeRun 180 17 [some (.ref 2)] [] (zk B im lm) := ze_if (ok := true) rfl 3 rfl rfl
theorem d_180_2_13 {B : zeB} {im : Nat → Nat → Int32} {lm : Nat → Nat → Int64} (o0 : Option Value)  : zeRun 180 13 [o0] [] (zk B im lm) = some (some (.int 1), (zk B im lm)) := ze_ret (ok := true) rfl 3 rfl rfl
def m_180_2  (im : zI) (lm : zJ) : zR :=
    some (if (1 : Int32) = 0 then 0 else if (im 2 1) = 0 then 1 else 0, im, lm)
theorem m_180_2_ok {B : zeB}  (im : zI) (lm : zJ) : zL B 1 (m_180_2  im lm) (zeRun 180 0 [some (.ref 2)] [] (zk B im lm)) := by
  unfold m_180_2
  refine zL_ifm d_180_2_0 (fun h => ?_) (fun h => ?_)
  · repeat rw [if_pos h]
    exact zL_ret (d_180_2_17 _)
  · repeat rw [if_neg h]
    refine zL_ifm d_180_2_6 (fun h => ?_) (fun h => ?_)
    · repeat rw [if_pos h]
      exact zL_ret (d_180_2_13 _)
    · repeat rw [if_neg h]
      exact zL_ret (d_180_2_17 _)
/-! J3_checkIndex_8e157 -/
theorem d_204_0 {B : zeB} {im : Nat → Nat → Int32} {lm : Nat → Nat → Int64} (l0 : Int32) (l1 : Int32)  : zeRun 204 0 [some (.int l0), some (.int l1), some (.ref 8)] [] (zk B im lm) = if l0 < 0 then zeRun 204 9 [some (.int l0), some (.int l1), some (.ref 8)] [] (zk B im lm) else zeRun 204 4 [some (.int l0), some (.int l1), some (.ref 8)] [] (zk B im lm) := ze_if (ok := true) rfl 2 rfl rfl
theorem d_204_4 {B : zeB} {im : Nat → Nat → Int32} {lm : Nat → Nat → Int64} (l0 : Int32) (l1 : Int32)  : zeRun 204 4 [some (.int l0), some (.int l1), some (.ref 8)] [] (zk B im lm) = if l0 < l1 then zeRun 204 16 [some (.int l0), some (.int l1), some (.ref 8)] [] (zk B im lm) else zeRun 204 9 [some (.int l0), some (.int l1), some (.ref 8)] [] (zk B im lm) := ze_if (ok := true) rfl 3 rfl rfl
theorem d_204_16 {B : zeB} {im : Nat → Nat → Int32} {lm : Nat → Nat → Int64} (l0 : Int32) (o1 : Option Value) (o2 : Option Value)  : zeRun 204 16 [some (.int l0), o1, o2] [] (zk B im lm) = some (some (.int l0), (zk B im lm)) := ze_ret (ok := true) rfl 2 rfl rfl
def m_204 (l0 : Int32) (l1 : Int32) (im : zI) (lm : zJ) : zR :=
    if l0 < 0 then
      none
    else
      if l0 < l1 then
        some (l0, im, lm)
      else
        none
theorem m_204_ok {B : zeB} (l0 : Int32) (l1 : Int32) (im : zI) (lm : zJ) : zL B 1 (m_204 l0 l1 im lm) (zeRun 204 0 [some (.int l0), some (.int l1), some (.ref 8)] [] (zk B im lm)) := by
  unfold m_204
  refine zL_if (d_204_0 _ _) (fun h => ?_) (fun h => ?_)
  · skip
    exact zL_none
  · skip
    refine zL_if (d_204_4 _ _) (fun h => ?_) (fun h => ?_)
    · skip
      exact zL_ret (d_204_16 _ _ _)
    · skip
      exact zL_none
