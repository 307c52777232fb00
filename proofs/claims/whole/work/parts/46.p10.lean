/-! pure: X7_doWagerFinal, X7_wagerFinal, X8_wagerFinal, X7_doubled, X7_safeWager, X8_safeWager -/
/-! X7_doWagerFinal -/
theorem d_109_0 {B : zeB} {im : Nat → Nat → Int32} {lm : Nat → Nat → Int64} (l1 : Int32) (l2 : Int32) (o3 : Option Value)  : zeRun 109 0 [some (.ref 16), some (.int l1), some (.int l2), o3] [] (zk B im lm) = zeBh 109 5 [some (.ref 16), some (.int l1), some (.int l2), o3] [] (zeRun 38 0 [some (.ref 16), some (.int l1)] [] (zk B im lm)) := ze_call (ok := true) rfl 3 rfl rfl rfl
theorem d_109_5 {B : zeB} {im : Nat → Nat → Int32} {lm : Nat → Nat → Int64} (l1 : Int32) (l2 : Int32) (o3 : Option Value) (s0 : Int32)  : zeRun 109 5 [some (.ref 16), some (.int l1), some (.int l2), o3] [.int s0] (zk B im lm) = if s0 = 0 then zeRun 109 8 [some (.ref 16), some (.int l1), some (.int l2), o3] [] (zk B im lm) else zeRun 109 11 [some (.ref 16), some (.int l1), some (.int l2), o3] [] (zk B im lm) := ze_if (ok := true) rfl 1 rfl rfl
theorem d_109_8 {B : zeB} {im : Nat → Nat → Int32} {lm : Nat → Nat → Int64} (o0 : Option Value) (o1 : Option Value) (o2 : Option Value) (o3 : Option Value)  : zeRun 109 8 [o0, o1, o2, o3] [] (zk B im lm) = some (some (.int (-10000001)), (zk B im lm)) := ze_ret (ok := true) rfl 2 rfl rfl
theorem d_109_11 {B : zeB} {im : Nat → Nat → Int32} {lm : Nat → Nat → Int64} (l1 : Int32) (l2 : Int32) (o3 : Option Value)  : zeRun 109 11 [some (.ref 16), some (.int l1), some (.int l2), o3] [] (zk B im lm) = if l2 < 0 then zeRun 109 22 [some (.ref 16), some (.int l1), some (.int l2), o3] [] (zk B im lm) else zeRun 109 15 [some (.ref 16), some (.int l1), some (.int l2), o3] [] (zk B im lm) := ze_if (ok := true) rfl 2 rfl rfl
theorem d_109_22 {B : zeB} {im : Nat → Nat → Int32} {lm : Nat → Nat → Int64} (o0 : Option Value) (o1 : Option Value) (o2 : Option Value) (o3 : Option Value)  : zeRun 109 22 [o0, o1, o2, o3] [] (zk B im lm) = some (some (.int (-10000002)), (zk B im lm)) := ze_ret (ok := true) rfl 2 rfl rfl
theorem d_109_15 {B : zeB} {im : Nat → Nat → Int32} {lm : Nat → Nat → Int64} (l1 : Int32) (l2 : Int32) (o3 : Option Value)  : zeRun 109 15 [some (.ref 16), some (.int l1), some (.int l2), o3] [] (zk B im lm) = if l2 ≤ 100000 then zeRun 109 25 [some (.ref 16), some (.int l1), some (.int l2), o3] [] (zk B im lm) else zeRun 109 22 [some (.ref 16), some (.int l1), some (.int l2), o3] [] (zk B im lm) := ze_if (ok := true) rfl 3 rfl rfl
theorem d_109_25 {B : zeB} {im : Nat → Nat → Int32} {lm : Nat → Nat → Int64} (l1 : Int32) (l2 : Int32) (o3 : Option Value)  : zeRun 109 25 [some (.ref 16), some (.int l1), some (.int l2), o3] [] (zk B im lm) = if (im 17 0) = 4 then zeRun 109 42 [some (.ref 16), some (.int l1), some (.int l2), o3] [] (zk B im lm) else zeRun 109 36 [some (.ref 16), some (.int l1), some (.int l2), o3] [] (zk B im lm) := ze_if (ok := true) rfl 5 rfl rfl
theorem d_109_42 {B : zeB} {im : Nat → Nat → Int32} {lm : Nat → Nat → Int64} (l1 : Int32) (l2 : Int32) (o3 : Option Value)  : zeRun 109 42 [some (.ref 16), some (.int l1), some (.int l2), o3] [] (zk B im lm) = zeBh 109 53 [some (.ref 16), some (.int l1), some (.int l2), o3] [] (zeRun 107 0 [some (.ref 23), some (.int l1)] [] (zk B im lm)) := ze_call (ok := true) rfl 5 rfl rfl rfl
theorem d_109_53 {B : zeB} {im : Nat → Nat → Int32} {lm : Nat → Nat → Int64} (l1 : Int32) (l2 : Int32) (o3 : Option Value) (s0 : Int32)  : zeRun 109 53 [some (.ref 16), some (.int l1), some (.int l2), o3] [.int s0] (zk B im lm) = if s0 = 0 then zeRun 109 56 [some (.ref 16), some (.int l1), some (.int l2), o3] [] (zk B im lm) else zeRun 109 63 [some (.ref 16), some (.int l1), some (.int l2), o3] [] (zk B im lm) := ze_if (ok := true) rfl 1 rfl rfl
theorem d_109_56 {B : zeB} {im : Nat → Nat → Int32} {lm : Nat → Nat → Int64} (o1 : Option Value) (o2 : Option Value) (o3 : Option Value)  : zeRun 109 56 [some (.ref 16), o1, o2, o3] [] (zk B im lm) = zeBh 109 62 [some (.ref 16), o1, o2, o3] [] (zeRun 17 0 [some (.ref 16), some (.int 6)] [] (zk B im lm)) := ze_call (ok := true) rfl 3 rfl rfl rfl
theorem d_109_62 {B : zeB} {im : Nat → Nat → Int32} {lm : Nat → Nat → Int64} (o0 : Option Value) (o1 : Option Value) (o2 : Option Value) (o3 : Option Value) (s0 : Int32)  : zeRun 109 62 [o0, o1, o2, o3] [.int s0] (zk B im lm) = some (some (.int s0), (zk B im lm)) := ze_ret (ok := true) rfl 1 rfl rfl
theorem d_109_63 {B : zeB} {im : Nat → Nat → Int32} {lm : Nat → Nat → Int64} (l1 : Int32) (l2 : Int32) (o3 : Option Value) (c0 : zeInb l1 6 = true) : zeRun 109 63 [some (.ref 16), some (.int l1), some (.int l2), o3] [] (zk B im lm) = if l2 ≤ (im 24 (Int32.toNatClampNeg l1)) then zeRun 109 85 [some (.ref 16), some (.int l1), some (.int l2), o3] [] (zk B im lm) else zeRun 109 79 [some (.ref 16), some (.int l1), some (.int l2), o3] [] (zk B im lm) := ze_if (ok := (zeInb l1 6 && true)) rfl 8 rfl (zeA2 c0 rfl)
theorem d_109_85 {B : zeB} {im : Nat → Nat → Int32} {lm : Nat → Nat → Int64} (l1 : Int32) (l2 : Int32) (o3 : Option Value) (c0 : zeInb l1 6 = true) : zeRun 109 85 [some (.ref 16), some (.int l1), some (.int l2), o3] [] (zk B im lm) = zeBh 109 108 [some (.ref 16), some (.int l1), some (.int l2), o3] [] (zeRun 108 0 [some (.ref 23), none, none] [] (zk B (zeU2 im 25 (Int32.toNatClampNeg l1) l2) lm)) := ze_call (ok := (zeInb l1 6 && true)) rfl 11 rfl rfl (zeA2 c0 rfl)
theorem d_109_108 {B : zeB} {im : Nat → Nat → Int32} {lm : Nat → Nat → Int64} (o1 : Option Value) (o2 : Option Value) (o3 : Option Value) (s0 : Int32)  : zeRun 109 108 [some (.ref 16), o1, o2, o3] [.int s0] (zk B im lm) = if s0 = 0 then zeRun 109 113 [some (.ref 16), o1, o2, some (.int s0)] [] (zk B im lm) else zeRun 109 121 [some (.ref 16), o1, o2, some (.int s0)] [] (zk B im lm) := ze_if (ok := true) rfl 3 rfl rfl
theorem d_109_113 {B : zeB} {im : Nat → Nat → Int32} {lm : Nat → Nat → Int64} (o1 : Option Value) (o2 : Option Value) (l3 : Int32)  : zeRun 109 113 [some (.ref 16), o1, o2, some (.int l3)] [] (zk B im lm) = some (some (.int l3), (zk B (zeU2 im 17 0 5) lm)) := ze_ret (ok := true) rfl 6 rfl rfl
theorem d_109_121 {B : zeB} {im : Nat → Nat → Int32} {lm : Nat → Nat → Int64} (o0 : Option Value) (o1 : Option Value) (o2 : Option Value) (l3 : Int32)  : zeRun 109 121 [o0, o1, o2, some (.int l3)] [] (zk B im lm) = some (some (.int l3), (zk B im lm)) := ze_ret (ok := true) rfl 2 rfl rfl
theorem d_109_79 {B : zeB} {im : Nat → Nat → Int32} {lm : Nat → Nat → Int64} (o1 : Option Value) (o2 : Option Value) (o3 : Option Value)  : zeRun 109 79 [some (.ref 16), o1, o2, o3] [] (zk B im lm) = zeBh 109 84 [some (.ref 16), o1, o2, o3] [] (zeRun 17 0 [some (.ref 16), some (.int 5)] [] (zk B im lm)) := ze_call (ok := true) rfl 3 rfl rfl rfl
theorem d_109_84 {B : zeB} {im : Nat → Nat → Int32} {lm : Nat → Nat → Int64} (o0 : Option Value) (o1 : Option Value) (o2 : Option Value) (o3 : Option Value) (s0 : Int32)  : zeRun 109 84 [o0, o1, o2, o3] [.int s0] (zk B im lm) = some (some (.int s0), (zk B im lm)) := ze_ret (ok := true) rfl 1 rfl rfl
theorem d_109_36 {B : zeB} {im : Nat → Nat → Int32} {lm : Nat → Nat → Int64} (o1 : Option Value) (o2 : Option Value) (o3 : Option Value)  : zeRun 109 36 [some (.ref 16), o1, o2, o3] [] (zk B im lm) = zeBh 109 41 [some (.ref 16), o1, o2, o3] [] (zeRun 17 0 [some (.ref 16), some (.int 1)] [] (zk B im lm)) := ze_call (ok := true) rfl 3 rfl rfl rfl
theorem d_109_41 {B : zeB} {im : Nat → Nat → Int32} {lm : Nat → Nat → Int64} (o0 : Option Value) (o1 : Option Value) (o2 : Option Value) (o3 : Option Value) (s0 : Int32)  : zeRun 109 41 [o0, o1, o2, o3] [.int s0] (zk B im lm) = some (some (.int s0), (zk B im lm)) := ze_ret (ok := true) rfl 1 rfl rfl
def m_109 (l1 : Int32) (l2 : Int32) (im : zI) (lm : zJ) : zR :=
    if (if l1 < 0 then 0 else if (im 17 1) ≤ l1 then 0 else 1 : Int32) = 0 then
      some ((-10000001), im, lm)
    else
      if l2 < 0 then
        some ((-10000002), im, lm)
      else
        if l2 ≤ 100000 then
          if (im 17 0) = 4 then
            zBd (m_107 l1 im lm) fun v2 im2 lm2 =>
            if v2 = 0 then
              zBd (m_17 6 im2 lm2) fun v3 im3 lm3 =>
              some (v3, im3, lm3)
            else
              zCk (zeInb l1 6) <|
              if l2 ≤ (im2 24 (Int32.toNatClampNeg l1)) then
                zBd (m_108  (zeU2 im2 25 (Int32.toNatClampNeg l1) l2) lm2) fun v4 im4 lm4 =>
                some (v4, if v4 = 0 then (zeU2 im4 17 0 5) else im4, lm4)
              else
                zBd (m_17 5 im2 lm2) fun v5 im5 lm5 =>
                some (v5, im5, lm5)
          else
            zBd (m_17 1 im lm) fun v6 im6 lm6 =>
            some (v6, im6, lm6)
        else
          some ((-10000002), im, lm)
theorem m_109_ok {B : zeB} (l1 : Int32) (l2 : Int32) (im : zI) (lm : zJ) : zL B 1 (m_109 l1 l2 im lm) (zeRun 109 0 [some (.ref 16), some (.int l1), some (.int l2), none] [] (zk B im lm)) := by
  unfold m_109
  refine zL_bdp (e := (if l1 < 0 then 0 else if (im 17 1) ≤ l1 then 0 else 1 : Int32)) (d_109_0 _ _ _) (m_38_ok _ _ _) ?_
  refine zL_if (d_109_5 _ _ _ _) (fun h => ?_) (fun h => ?_)
  · skip
    exact zL_ret (d_109_8 _ _ _ _)
  · skip
    refine zL_if (d_109_11 _ _ _) (fun h => ?_) (fun h => ?_)
    · skip
      exact zL_ret (d_109_22 _ _ _ _)
    · skip
      refine zL_if (d_109_15 _ _ _) (fun h => ?_) (fun h => ?_)
      · skip
        refine zL_if (d_109_25 _ _ _) (fun h => ?_) (fun h => ?_)
        · skip
          refine zL_bd (d_109_42 _ _ _) (m_107_ok _ _ _) fun v2 im2 lm2 => ?_
          refine zL_if (d_109_53 _ _ _ _) (fun h => ?_) (fun h => ?_)
          · skip
            refine zL_bd (d_109_56 _ _ _) (m_17_ok _ _ _) fun v3 im3 lm3 => ?_
            exact zL_ret (d_109_62 _ _ _ _ _)
          · skip
            refine zL_ck fun c1 => ?_
            refine zL_if (d_109_63 _ _ _ c1) (fun h => ?_) (fun h => ?_)
            · skip
              refine zL_bd (d_109_85 _ _ _ c1) (m_108_ok _ _) fun v4 im4 lm4 => ?_
              refine zL_ifm (d_109_108 _ _ _ _) (fun h => ?_) (fun h => ?_)
              · repeat rw [if_pos h]
                exact zL_ret (d_109_113 _ _ _)
              · repeat rw [if_neg h]
                exact zL_ret (d_109_121 _ _ _ _)
            · skip
              refine zL_bd (d_109_79 _ _ _) (m_17_ok _ _ _) fun v5 im5 lm5 => ?_
              exact zL_ret (d_109_84 _ _ _ _ _)
        · skip
          refine zL_bd (d_109_36 _ _ _) (m_17_ok _ _ _) fun v6 im6 lm6 => ?_
          exact zL_ret (d_109_41 _ _ _ _ _)
      · skip
        exact zL_ret (d_109_22 _ _ _ _)
/-! X7_wagerFinal -/
theorem d_110_0 {B : zeB} {im : Nat → Nat → Int32} {lm : Nat → Nat → Int64} (l1 : Int32) (l2 : Int32)  : zeRun 110 0 [some (.ref 16), some (.int l1), some (.int l2)] [] (zk B im lm) = zeBh 110 11 [some (.ref 16), some (.int l1), some (.int l2)] [] (zeRun 15 0 [some (.ref 42), some (.ref 17)] [] (zk B im lm)) := ze_call (ok := true) rfl 5 rfl rfl rfl
theorem d_110_11 {B : zeB} {im : Nat → Nat → Int32} {lm : Nat → Nat → Int64} (l1 : Int32) (l2 : Int32)  : zeRun 110 11 [some (.ref 16), some (.int l1), some (.int l2)] [] (zk B im lm) = zeBh 110 18 [some (.ref 16), some (.int l1), some (.int l2)] [.ref 16] (zeRun 109 0 [some (.ref 16), some (.int l1), some (.int l2), none] [] (zk B im lm)) := ze_call (ok := true) rfl 5 rfl rfl rfl
theorem d_110_18 {B : zeB} {im : Nat → Nat → Int32} {lm : Nat → Nat → Int64} (o0 : Option Value) (o1 : Option Value) (o2 : Option Value) (s1 : Int32)  : zeRun 110 18 [o0, o1, o2] [.int s1, .ref 16] (zk B im lm) = zeBh 110 21 [o0, o1, o2] [] (zeRun 21 0 [some (.ref 16), some (.int s1)] [] (zk B im lm)) := ze_call (ok := true) rfl 1 rfl rfl rfl
theorem d_110_21 {B : zeB} {im : Nat → Nat → Int32} {lm : Nat → Nat → Int64} (o0 : Option Value) (o1 : Option Value) (o2 : Option Value) (s0 : Int32)  : zeRun 110 21 [o0, o1, o2] [.int s0] (zk B im lm) = some (some (.int s0), (zk B im lm)) := ze_ret (ok := true) rfl 1 rfl rfl
def m_110 (l1 : Int32) (l2 : Int32) (im : zI) (lm : zJ) : zR :=
    zBd (m_15  im lm) fun _ im1 lm1 =>
    zBd (m_109 l1 l2 im1 lm1) fun v2 im2 lm2 =>
    zBd (m_21 v2 im2 lm2) fun v3 im3 lm3 =>
    some (v3, im3, lm3)
theorem m_110_ok {B : zeB} (l1 : Int32) (l2 : Int32) (im : zI) (lm : zJ) : zL B 1 (m_110 l1 l2 im lm) (zeRun 110 0 [some (.ref 16), some (.int l1), some (.int l2)] [] (zk B im lm)) := by
  unfold m_110
  refine zL_bdv (d_110_0 _ _) (m_15_ok _ _) fun _ im1 lm1 => ?_
  refine zL_bd (d_110_11 _ _) (m_109_ok _ _ _ _) fun v2 im2 lm2 => ?_
  refine zL_bd (d_110_18 _ _ _ _) (m_21_ok _ _ _) fun v3 im3 lm3 => ?_
  exact zL_ret (d_110_21 _ _ _ _)
/-! X8_wagerFinal -/
theorem d_111_0 {B : zeB} {im : Nat → Nat → Int32} {lm : Nat → Nat → Int64} (l1 : Int32) (l2 : Int32) (o3 : Option Value) (o4 : Option Value) (o5 : Option Value)  : zeRun 111 0 [some (.ref 170), some (.int l1), some (.int l2), o3, o4, o5] [] (zk B im lm) = zeBh 111 5 [some (.ref 170), some (.int l1), some (.int l2), o3, o4, o5] [] (zeRun 44 0 [some (.ref 170), some (.int l1)] [] (zk B im lm)) := ze_call (ok := true) rfl 3 rfl rfl rfl
theorem d_111_5 {B : zeB} {im : Nat → Nat → Int32} {lm : Nat → Nat → Int64} (l1 : Int32) (l2 : Int32) (o3 : Option Value) (o4 : Option Value) (o5 : Option Value) (s0 : Int32)  : zeRun 111 5 [some (.ref 170), some (.int l1), some (.int l2), o3, o4, o5] [.int s0] (zk B im lm) = if s0 = 0 then zeRun 111 11 [some (.ref 170), some (.int l1), some (.int l2), o3, o4, o5] [] (zk B im lm) else zeRun 111 8 [some (.ref 170), some (.int l1), some (.int l2), o3, o4, o5] [] (zk B im lm) := ze_if (ok := true) rfl 1 rfl rfl
theorem d_111_11 {B : zeB} {im : Nat → Nat → Int32} {lm : Nat → Nat → Int64} (l1 : Int32) (l2 : Int32) (o3 : Option Value) (o4 : Option Value) (o5 : Option Value)  : zeRun 111 11 [some (.ref 170), some (.int l1), some (.int l2), o3, o4, o5] [] (zk B im lm) = zeBh 111 18 [some (.ref 170), some (.int l1), some (.int l2), o3, o4, o5] [] (zeRun 32 0 [some (.int l2), some (.int 0), some (.int 100000)] [] (zk B im lm)) := ze_call (ok := true) rfl 4 rfl rfl rfl
theorem d_111_18 {B : zeB} {im : Nat → Nat → Int32} {lm : Nat → Nat → Int64} (l1 : Int32) (l2 : Int32) (o3 : Option Value) (o4 : Option Value) (o5 : Option Value) (s0 : Int32)  : zeRun 111 18 [some (.ref 170), some (.int l1), some (.int l2), o3, o4, o5] [.int s0] (zk B im lm) = if s0 = 0 then zeRun 111 21 [some (.ref 170), some (.int l1), some (.int l2), o3, o4, o5] [] (zk B im lm) else zeRun 111 24 [some (.ref 170), some (.int l1), some (.int l2), o3, o4, o5] [] (zk B im lm) := ze_if (ok := true) rfl 1 rfl rfl
theorem d_111_21 {B : zeB} {im : Nat → Nat → Int32} {lm : Nat → Nat → Int64} (o0 : Option Value) (o1 : Option Value) (o2 : Option Value) (o3 : Option Value) (o4 : Option Value) (o5 : Option Value)  : zeRun 111 21 [o0, o1, o2, o3, o4, o5] [] (zk B im lm) = some (some (.int (-10000002)), (zk B im lm)) := ze_ret (ok := true) rfl 2 rfl rfl
theorem d_111_24 {B : zeB} {im : Nat → Nat → Int32} {lm : Nat → Nat → Int64} (l1 : Int32) (l2 : Int32) (o3 : Option Value) (o4 : Option Value) (o5 : Option Value)  : zeRun 111 24 [some (.ref 170), some (.int l1), some (.int l2), o3, o4, o5] [] (zk B im lm) = if (im 171 0) = 4 then zeRun 111 38 [some (.ref 170), some (.int l1), some (.int l2), o3, o4, o5] [] (zk B im lm) else zeRun 111 34 [some (.ref 170), some (.int l1), some (.int l2), o3, o4, o5] [] (zk B im lm) := ze_if (ok := true) rfl 6 rfl rfl
theorem d_111_38 {B : zeB} {im : Nat → Nat → Int32} {lm : Nat → Nat → Int64} (l1 : Int32) (l2 : Int32) (o3 : Option Value) (o4 : Option Value) (o5 : Option Value)  : zeRun 111 38 [some (.ref 170), some (.int l1), some (.int l2), o3, o4, o5] [] (zk B im lm) = if (((im 171 13) >>> (l1 &&& 31)) &&& 1) = 0 then zeRun 111 64 [some (.ref 170), some (.int l1), some (.int l2), o3, o4, o5] [] (zk B im lm) else zeRun 111 52 [some (.ref 170), some (.int l1), some (.int l2), o3, o4, o5] [] (zk B im lm) := ze_if (ok := true) rfl 9 rfl rfl
theorem d_111_64 {B : zeB} {im : Nat → Nat → Int32} {lm : Nat → Nat → Int64} (l1 : Int32) (l2 : Int32) (o3 : Option Value) (o4 : Option Value) (o5 : Option Value)  : zeRun 111 64 [some (.ref 170), some (.int l1), some (.int l2), o3, o4, o5] [] (zk B im lm) = zeRun 111 87 [some (.ref 170), some (.int l1), some (.int l2), o3, o4, o5] [.int 6] (zk B im lm) := ze_go (ok := true) rfl 2 rfl rfl
theorem d_111_52 {B : zeB} {im : Nat → Nat → Int32} {lm : Nat → Nat → Int64} (l1 : Int32) (l2 : Int32) (o3 : Option Value) (o4 : Option Value) (o5 : Option Value) (c0 : zeInb (22 + l1) 360 = true) : zeRun 111 52 [some (.ref 170), some (.int l1), some (.int l2), o3, o4, o5] [] (zk B im lm) = if (im 171 (Int32.toNatClampNeg (22 + l1))) < 0 then zeRun 111 69 [some (.ref 170), some (.int l1), some (.int l2), o3, o4, o5] [] (zk B im lm) else zeRun 111 64 [some (.ref 170), some (.int l1), some (.int l2), o3, o4, o5] [] (zk B im lm) := ze_if (ok := (zeInb (22 + l1) 360 && true)) rfl 7 rfl (zeA2 c0 rfl)
theorem d_111_69 {B : zeB} {im : Nat → Nat → Int32} {lm : Nat → Nat → Int64} (l1 : Int32) (l2 : Int32) (o3 : Option Value) (o4 : Option Value) (o5 : Option Value) (c0 : zeInb (16 + l1) 360 = true) : zeRun 111 69 [some (.ref 170), some (.int l1), some (.int l2), o3, o4, o5] [] (zk B im lm) = if l2 ≤ (im 171 (Int32.toNatClampNeg (16 + l1))) then zeRun 111 86 [some (.ref 170), some (.int l1), some (.int l2), o3, o4, o5] [] (zk B im lm) else zeRun 111 82 [some (.ref 170), some (.int l1), some (.int l2), o3, o4, o5] [] (zk B im lm) := ze_if (ok := (zeInb (16 + l1) 360 && true)) rfl 8 rfl (zeA2 c0 rfl)
theorem d_111_86 {B : zeB} {im : Nat → Nat → Int32} {lm : Nat → Nat → Int64} (l1 : Int32) (l2 : Int32) (o3 : Option Value) (o4 : Option Value) (o5 : Option Value)  : zeRun 111 86 [some (.ref 170), some (.int l1), some (.int l2), o3, o4, o5] [] (zk B im lm) = zeRun 111 87 [some (.ref 170), some (.int l1), some (.int l2), o3, o4, o5] [.int 0] (zk B im lm) := ze_go (ok := true) rfl 1 rfl rfl
theorem d_111_82 {B : zeB} {im : Nat → Nat → Int32} {lm : Nat → Nat → Int64} (l1 : Int32) (l2 : Int32) (o3 : Option Value) (o4 : Option Value) (o5 : Option Value)  : zeRun 111 82 [some (.ref 170), some (.int l1), some (.int l2), o3, o4, o5] [] (zk B im lm) = zeRun 111 87 [some (.ref 170), some (.int l1), some (.int l2), o3, o4, o5] [.int 5] (zk B im lm) := ze_go (ok := true) rfl 2 rfl rfl
theorem d_111_34 {B : zeB} {im : Nat → Nat → Int32} {lm : Nat → Nat → Int64} (l1 : Int32) (l2 : Int32) (o3 : Option Value) (o4 : Option Value) (o5 : Option Value)  : zeRun 111 34 [some (.ref 170), some (.int l1), some (.int l2), o3, o4, o5] [] (zk B im lm) = zeRun 111 87 [some (.ref 170), some (.int l1), some (.int l2), o3, o4, o5] [.int 1] (zk B im lm) := ze_go (ok := true) rfl 2 rfl rfl
theorem d_111_8 {B : zeB} {im : Nat → Nat → Int32} {lm : Nat → Nat → Int64} (o0 : Option Value) (o1 : Option Value) (o2 : Option Value) (o3 : Option Value) (o4 : Option Value) (o5 : Option Value)  : zeRun 111 8 [o0, o1, o2, o3, o4, o5] [] (zk B im lm) = some (some (.int (-10000001)), (zk B im lm)) := ze_ret (ok := true) rfl 2 rfl rfl
theorem d_111_87 {B : zeB} {im : Nat → Nat → Int32} {lm : Nat → Nat → Int64} (l1 : Int32) (l2 : Int32) (o3 : Option Value) (o4 : Option Value) (o5 : Option Value) (s0 : Int32)  : zeRun 111 87 [some (.ref 170), some (.int l1), some (.int l2), o3, o4, o5] [.int s0] (zk B im lm) = if s0 ≤ 0 then zeRun 111 98 [some (.ref 170), some (.int l1), some (.int l2), some (.int s0), o4, o5] [] (zk B im lm) else zeRun 111 92 [some (.ref 170), some (.int l1), some (.int l2), some (.int s0), o4, o5] [] (zk B im lm) := ze_if (ok := true) rfl 3 rfl rfl
theorem d_111_98 {B : zeB} {im : Nat → Nat → Int32} {lm : Nat → Nat → Int64} (l1 : Int32) (l2 : Int32) (o3 : Option Value) (o4 : Option Value) (o5 : Option Value)  : zeRun 111 98 [some (.ref 170), some (.int l1), some (.int l2), o3, o4, o5] [] (zk B im lm) = zeBh 111 102 [some (.ref 170), some (.int l1), some (.int l2), o3, o4, o5] [] (zeRun 25 0 [some (.ref 170), none] [] (zk B im lm)) := ze_call (ok := true) rfl 2 rfl rfl rfl
theorem d_111_102 {B : zeB} {im : Nat → Nat → Int32} {lm : Nat → Nat → Int64} (l1 : Int32) (l2 : Int32) (o3 : Option Value) (o4 : Option Value) (o5 : Option Value) (c0 : zeInb (22 + l1) 360 = true) : zeRun 111 102 [some (.ref 170), some (.int l1), some (.int l2), o3, o4, o5] [] (zk B im lm) = zeRun 111 118 [some (.ref 170), some (.int l1), some (.int l2), o3, some (.int 0), some (.int 0)] [] (zk B (zeU2 im 171 (Int32.toNatClampNeg (22 + l1)) l2) lm) := ze_go (ok := (zeInb (22 + l1) 360 && true)) rfl 11 rfl (zeA2 c0 rfl)
theorem d_111_92 {B : zeB} {im : Nat → Nat → Int32} {lm : Nat → Nat → Int64} (o1 : Option Value) (o2 : Option Value) (l3 : Int32) (o4 : Option Value) (o5 : Option Value)  : zeRun 111 92 [some (.ref 170), o1, o2, some (.int l3), o4, o5] [] (zk B im lm) = zeBh 111 97 [some (.ref 170), o1, o2, some (.int l3), o4, o5] [] (zeRun 24 0 [some (.ref 170), some (.int l3)] [] (zk B im lm)) := ze_call (ok := true) rfl 3 rfl rfl rfl
theorem d_111_97 {B : zeB} {im : Nat → Nat → Int32} {lm : Nat → Nat → Int64} (o0 : Option Value) (o1 : Option Value) (o2 : Option Value) (o3 : Option Value) (o4 : Option Value) (o5 : Option Value) (s0 : Int32)  : zeRun 111 97 [o0, o1, o2, o3, o4, o5] [.int s0] (zk B im lm) = some (some (.int s0), (zk B im lm)) := ze_ret (ok := true) rfl 1 rfl rfl
theorem d_111_118 {B : zeB} {im : Nat → Nat → Int32} {lm : Nat → Nat → Int64} (o1 : Option Value) (o2 : Option Value) (o3 : Option Value) (l4 : Int32) (l5 : Int32)  : zeRun 111 118 [some (.ref 170), o1, o2, o3, some (.int l4), some (.int l5)] [] (zk B im lm) = if (im 171 1) ≤ l5 then zeRun 111 174 [some (.ref 170), o1, o2, o3, some (.int l4), some (.int l5)] [] (zk B im lm) else zeRun 111 129 [some (.ref 170), o1, o2, o3, some (.int l4), some (.int l5)] [] (zk B im lm) := ze_if (ok := true) rfl 6 rfl rfl
theorem d_111_174 {B : zeB} {im : Nat → Nat → Int32} {lm : Nat → Nat → Int64} (o1 : Option Value) (o2 : Option Value) (o3 : Option Value) (l4 : Int32) (o5 : Option Value)  : zeRun 111 174 [some (.ref 170), o1, o2, o3, some (.int l4), o5] [] (zk B im lm) = if l4 = 0 then zeRun 111 184 [some (.ref 170), o1, o2, o3, some (.int l4), o5] [.int 0, .ref 171] (zk B im lm) else zeRun 111 188 [some (.ref 170), o1, o2, o3, some (.int l4), o5] [.int 0, .ref 171] (zk B im lm) := ze_if (ok := true) rfl 5 rfl rfl
theorem d_111_184 {B : zeB} {im : Nat → Nat → Int32} {lm : Nat → Nat → Int64} (o0 : Option Value) (o1 : Option Value) (o2 : Option Value) (o3 : Option Value) (l4 : Int32) (o5 : Option Value) (s1 : Int32)  : zeRun 111 184 [o0, o1, o2, o3, some (.int l4), o5] [.int s1, .ref 171] (zk B im lm) = zeRun 111 189 [o0, o1, o2, o3, some (.int l4), o5] [.int 5, .int s1, .ref 171] (zk B im lm) := ze_go (ok := true) rfl 2 rfl rfl
theorem d_111_188 {B : zeB} {im : Nat → Nat → Int32} {lm : Nat → Nat → Int64} (o0 : Option Value) (o1 : Option Value) (o2 : Option Value) (o3 : Option Value) (l4 : Int32) (o5 : Option Value) (s1 : Int32)  : zeRun 111 188 [o0, o1, o2, o3, some (.int l4), o5] [.int s1, .ref 171] (zk B im lm) = zeRun 111 189 [o0, o1, o2, o3, some (.int l4), o5] [.int 4, .int s1, .ref 171] (zk B im lm) := ze_go (ok := true) rfl 1 rfl rfl
theorem d_111_129 {B : zeB} {im : Nat → Nat → Int32} {lm : Nat → Nat → Int64} (o1 : Option Value) (o2 : Option Value) (o3 : Option Value) (l4 : Int32) (l5 : Int32)  : zeRun 111 129 [some (.ref 170), o1, o2, o3, some (.int l4), some (.int l5)] [] (zk B im lm) = if (((im 171 13) >>> (l5 &&& 31)) &&& 1) = 1 then zeRun 111 147 [some (.ref 170), o1, o2, o3, some (.int l4), some (.int l5)] [.int l4] (zk B im lm) else zeRun 111 164 [some (.ref 170), o1, o2, o3, some (.int l4), some (.int l5)] [.int l4] (zk B im lm) := ze_if (ok := true) rfl 11 rfl rfl
theorem d_111_147 {B : zeB} {im : Nat → Nat → Int32} {lm : Nat → Nat → Int64} (o1 : Option Value) (o2 : Option Value) (o3 : Option Value) (o4 : Option Value) (l5 : Int32) (s0 : Int32) (c0 : zeInb (22 + l5) 360 = true) : zeRun 111 147 [some (.ref 170), o1, o2, o3, o4, some (.int l5)] [.int s0] (zk B im lm) = if 0 ≤ (im 171 (Int32.toNatClampNeg (22 + l5))) then zeRun 111 164 [some (.ref 170), o1, o2, o3, o4, some (.int l5)] [.int s0] (zk B im lm) else zeRun 111 160 [some (.ref 170), o1, o2, o3, o4, some (.int l5)] [.int s0] (zk B im lm) := ze_if (ok := (zeInb (22 + l5) 360 && true)) rfl 7 rfl (zeA2 c0 rfl)
theorem d_111_164 {B : zeB} {im : Nat → Nat → Int32} {lm : Nat → Nat → Int64} (o1 : Option Value) (o2 : Option Value) (o3 : Option Value) (o4 : Option Value) (l5 : Int32) (s0 : Int32)  : zeRun 111 164 [some (.ref 170), o1, o2, o3, o4, some (.int l5)] [.int s0] (zk B im lm) = zeRun 111 118 [some (.ref 170), o1, o2, o3, some (.int (s0 + 0)), some (.int (l5 + 1))] [] (zk B im lm) := ze_go (ok := true) rfl 5 rfl rfl
theorem d_111_160 {B : zeB} {im : Nat → Nat → Int32} {lm : Nat → Nat → Int64} (o1 : Option Value) (o2 : Option Value) (o3 : Option Value) (o4 : Option Value) (l5 : Int32) (s0 : Int32)  : zeRun 111 160 [some (.ref 170), o1, o2, o3, o4, some (.int l5)] [.int s0] (zk B im lm) = zeRun 111 118 [some (.ref 170), o1, o2, o3, some (.int (s0 + 1)), some (.int (l5 + 1))] [] (zk B im lm) := ze_go (ok := true) rfl 6 rfl rfl
theorem d_111_189 {B : zeB} {im : Nat → Nat → Int32} {lm : Nat → Nat → Int64} (o0 : Option Value) (o1 : Option Value) (o2 : Option Value) (o3 : Option Value) (l4 : Int32) (o5 : Option Value) (s1 : Int32) (s2 : Int32) (c0 : zeInb s1 360 = true) : zeRun 111 189 [o0, o1, o2, o3, some (.int l4), o5] [.int s2, .int s1, .ref 171] (zk B im lm) = some (some (.int l4), (zk B (zeU2 im 171 (Int32.toNatClampNeg s1) s2) lm)) := ze_ret (ok := (zeInb s1 360 && true)) rfl 3 rfl (zeA2 c0 rfl)
def J_111_189  (l4 : Int32) (s1 : Int32) (s2 : Int32) (im : zI) (lm : zJ) : zR :=
    zCk (zeInb s1 360) <|
    some (l4, (zeU2 im 171 (Int32.toNatClampNeg s1) s2), lm)
theorem J_111_189_ok {B : zeB} (l4 : Int32) (s1 : Int32) (s2 : Int32) (o0 : Option Value) (o1 : Option Value) (o2 : Option Value) (o3 : Option Value) (o5 : Option Value) (im : zI) (lm : zJ) : zL B 1 (J_111_189  l4 s1 s2 im lm) (zeRun 111 189 [o0, o1, o2, o3, some (.int l4), o5] [.int s2, .int s1, .ref 171] (zk B im lm)) := by
  unfold J_111_189
  refine zL_ck fun c1 => ?_
  exact zL_ret (d_111_189 _ _ _ _ _ _ _ _ c1)
def F_111_118  : Nat → Int32 → Int32 → zI → zJ → zR
  | 0, _, _, _, _ => none
  | n + 1, l4, l5, im, lm =>
    if (im 171 1) ≤ l5 then
      J_111_189   l4 0 (if l4 = 0 then 5 else 4) im lm
    else
      zCk (if (((im 171 13) >>> (l5 &&& 31)) &&& 1) = 1 then zeInb (22 + l5) 360 else true) <|
      F_111_118  n (if (((im 171 13) >>> (l5 &&& 31)) &&& 1) = 1 then if 0 ≤ (im 171 (Int32.toNatClampNeg (22 + l5))) then (l4 + 0) else (l4 + 1) else (l4 + 0)) (l5 + 1) im lm
theorem F_111_118_ok {B : zeB} : ∀ (n : Nat) (l4 : Int32) (l5 : Int32) (o1 : Option Value) (o2 : Option Value) (o3 : Option Value) (im : zI) (lm : zJ), zL B 1 (F_111_118  n l4 l5 im lm) (zeRun 111 118 [some (.ref 170), o1, o2, o3, some (.int l4), some (.int l5)] [] (zk B im lm)) := by
  intro n
  induction n with
  | zero => intros; exact zL_none
  | succ n ih =>
    intro l4 l5 o1 o2 o3 im lm
    unfold F_111_118
    refine zL_if (d_111_118 _ _ _ _ _) (fun h => ?_) (fun h => ?_)
    · skip
      refine zL_ifm (d_111_174 _ _ _ _ _) (fun h => ?_) (fun h => ?_)
      · repeat rw [if_pos h]
        refine zL_eq (d_111_184 _ _ _ _ _ _ _) ?_
        exact J_111_189_ok   _ _ _ _ _ _ _ _ _ _
      · repeat rw [if_neg h]
        refine zL_eq (d_111_188 _ _ _ _ _ _ _) ?_
        exact J_111_189_ok   _ _ _ _ _ _ _ _ _ _
    · skip
      refine zL_ifm (d_111_129 _ _ _ _ _) (fun h => ?_) (fun h => ?_)
      · repeat rw [if_pos h]
        refine zL_ck fun c1 => ?_
        refine zL_ifm (d_111_147 _ _ _ _ _ _ c1) (fun h => ?_) (fun h => ?_)
        · repeat rw [if_pos h]
          refine zL_eq (d_111_164 _ _ _ _ _ _) ?_
          exact ih _ _ _ _ _ _ _
        · repeat rw [if_neg h]
          refine zL_eq (d_111_160 _ _ _ _ _ _) ?_
          exact ih _ _ _ _ _ _ _
      · repeat rw [if_neg h]
        refine zL_eq (d_111_164 _ _ _ _ _ _) ?_
        refine zL_ckt ?_
        exact ih _ _ _ _ _ _ _
def J_111_87  (l1 : Int32) (l2 : Int32) (s0 : Int32) (im : zI) (lm : zJ) : zR :=
    if s0 ≤ 0 then
      zBd (m_25  im lm) fun _ im1 lm1 =>
      zCk (zeInb (22 + l1) 360) <|
      F_111_118  2000 0 0 (zeU2 im1 171 (Int32.toNatClampNeg (22 + l1)) l2) lm1
    else
      zBd (m_24 s0 im lm) fun v2 im2 lm2 =>
      some (v2, im2, lm2)
theorem J_111_87_ok {B : zeB} (l1 : Int32) (l2 : Int32) (s0 : Int32) (o3 : Option Value) (o4 : Option Value) (o5 : Option Value) (im : zI) (lm : zJ) : zL B 1 (J_111_87  l1 l2 s0 im lm) (zeRun 111 87 [some (.ref 170), some (.int l1), some (.int l2), o3, o4, o5] [.int s0] (zk B im lm)) := by
  unfold J_111_87
  refine zL_if (d_111_87 _ _ _ _ _ _) (fun h => ?_) (fun h => ?_)
  · skip
    refine zL_bdv (d_111_98 _ _ _ _ _) (m_25_ok _ _) fun _ im1 lm1 => ?_
    refine zL_ck fun c1 => ?_
    refine zL_eq (d_111_102 _ _ _ _ _ c1) ?_
    exact F_111_118_ok  _ _ _ _ _ _ _ _
  · skip
    refine zL_bd (d_111_92 _ _ _ _ _) (m_24_ok _ _ _) fun v2 im2 lm2 => ?_
    exact zL_ret (d_111_97 _ _ _ _ _ _ _)
def m_111 (l1 : Int32) (l2 : Int32) (im : zI) (lm : zJ) : zR :=
    if (if (if l1 < 0 then 0 else if ((im 171 1) - 1) < l1 then 0 else 1 : Int32) = 0 then 1 else 0 : Int32) = 0 then
      if (if l2 < 0 then 0 else if 100000 < l2 then 0 else 1 : Int32) = 0 then
        some ((-10000002), im, lm)
      else
        zCk (if (im 171 0) = 4 then if (((im 171 13) >>> (l1 &&& 31)) &&& 1) = 0 then true else zeInb (22 + l1) 360 else true) <|
        zCk (if (im 171 0) = 4 then if (((im 171 13) >>> (l1 &&& 31)) &&& 1) = 0 then true else if (im 171 (Int32.toNatClampNeg (22 + l1))) < 0 then zeInb (16 + l1) 360 else true else true) <|
        J_111_87   l1 l2 (if (im 171 0) = 4 then if (((im 171 13) >>> (l1 &&& 31)) &&& 1) = 0 then 6 else if (im 171 (Int32.toNatClampNeg (22 + l1))) < 0 then if l2 ≤ (im 171 (Int32.toNatClampNeg (16 + l1))) then 0 else 5 else 6 else 1) im lm
    else
      some ((-10000001), im, lm)
theorem m_111_ok {B : zeB} (l1 : Int32) (l2 : Int32) (im : zI) (lm : zJ) : zL B 1 (m_111 l1 l2 im lm) (zeRun 111 0 [some (.ref 170), some (.int l1), some (.int l2), none, none, none] [] (zk B im lm)) := by
  unfold m_111
  refine zL_bdp (e := (if (if l1 < 0 then 0 else if ((im 171 1) - 1) < l1 then 0 else 1 : Int32) = 0 then 1 else 0 : Int32)) (d_111_0 _ _ _ _ _) (m_44_ok _ _ _) ?_
  refine zL_if (d_111_5 _ _ _ _ _ _) (fun h => ?_) (fun h => ?_)
  · skip
    refine zL_bdp (e := (if l2 < 0 then 0 else if 100000 < l2 then 0 else 1 : Int32)) (d_111_11 _ _ _ _ _) (m_32_ok _ _ _ _ _) ?_
    refine zL_if (d_111_18 _ _ _ _ _ _) (fun h => ?_) (fun h => ?_)
    · skip
      exact zL_ret (d_111_21 _ _ _ _ _ _)
    · skip
      refine zL_ifm (d_111_24 _ _ _ _ _) (fun h => ?_) (fun h => ?_)
      · repeat rw [if_pos h]
        refine zL_ifm (d_111_38 _ _ _ _ _) (fun h => ?_) (fun h => ?_)
        · repeat rw [if_pos h]
          refine zL_eq (d_111_64 _ _ _ _ _) ?_
          refine zL_ckt ?_
          refine zL_ckt ?_
          exact J_111_87_ok   _ _ _ _ _ _ _ _
        · repeat rw [if_neg h]
          refine zL_ck fun c1 => ?_
          refine zL_ifm (d_111_52 _ _ _ _ _ c1) (fun h => ?_) (fun h => ?_)
          · repeat rw [if_pos h]
            refine zL_ck fun c2 => ?_
            refine zL_ifm (d_111_69 _ _ _ _ _ c2) (fun h => ?_) (fun h => ?_)
            · repeat rw [if_pos h]
              refine zL_eq (d_111_86 _ _ _ _ _) ?_
              exact J_111_87_ok   _ _ _ _ _ _ _ _
            · repeat rw [if_neg h]
              refine zL_eq (d_111_82 _ _ _ _ _) ?_
              exact J_111_87_ok   _ _ _ _ _ _ _ _
          · repeat rw [if_neg h]
            refine zL_eq (d_111_64 _ _ _ _ _) ?_
            refine zL_ckt ?_
            exact J_111_87_ok   _ _ _ _ _ _ _ _
      · repeat rw [if_neg h]
        refine zL_eq (d_111_34 _ _ _ _ _) ?_
        refine zL_ckt ?_
        refine zL_ckt ?_
        exact J_111_87_ok   _ _ _ _ _ _ _ _
  · skip
    exact zL_ret (d_111_8 _ _ _ _ _ _)
/-! X7_doubled -/
theorem d_112_0 {B : zeB} {im : Nat → Nat → Int32} {lm : Nat → Nat → Int64} (l0 : Int32)  : zeRun 112 0 [some (.int l0)] [] (zk B im lm) = if l0 ≤ 0 then zeRun 112 10 [some (.int l0)] [] (zk B im lm) else zeRun 112 4 [some (.int l0)] [] (zk B im lm) := ze_if (ok := true) rfl 2 rfl rfl
theorem d_112_10 {B : zeB} {im : Nat → Nat → Int32} {lm : Nat → Nat → Int64} (l0 : Int32)  : zeRun 112 10 [some (.int l0)] [] (zk B im lm) = some (some (.int l0), (zk B im lm)) := ze_ret (ok := true) rfl 2 rfl rfl
theorem d_112_4 {B : zeB} {im : Nat → Nat → Int32} {lm : Nat → Nat → Int64} (l0 : Int32)  : zeRun 112 4 [some (.int l0)] [] (zk B im lm) = some (some (.int (2 * l0)), (zk B im lm)) := ze_ret (ok := true) rfl 5 rfl rfl
def m_112 (l0 : Int32) (im : zI) (lm : zJ) : zR :=
    some (if l0 ≤ 0 then l0 else (2 * l0), im, lm)
theorem m_112_ok {B : zeB} (l0 : Int32) (im : zI) (lm : zJ) : zL B 1 (m_112 l0 im lm) (zeRun 112 0 [some (.int l0)] [] (zk B im lm)) := by
  unfold m_112
  refine zL_ifm (d_112_0 _) (fun h => ?_) (fun h => ?_)
  · repeat rw [if_pos h]
    exact zL_ret (d_112_10 _)
  · repeat rw [if_neg h]
    exact zL_ret (d_112_4 _)
/-! X7_safeWager -/
theorem d_113_0 {B : zeB} {im : Nat → Nat → Int32} {lm : Nat → Nat → Int64} (l1 : Int32) (o2 : Option Value) (o3 : Option Value) (o4 : Option Value)  : zeRun 113 0 [some (.ref 16), some (.int l1), o2, o3, o4] [] (zk B im lm) = zeBh 113 5 [some (.ref 16), some (.int l1), o2, o3, o4] [] (zeRun 38 0 [some (.ref 16), some (.int l1)] [] (zk B im lm)) := ze_call (ok := true) rfl 3 rfl rfl rfl
theorem d_113_5 {B : zeB} {im : Nat → Nat → Int32} {lm : Nat → Nat → Int64} (l1 : Int32) (o2 : Option Value) (o3 : Option Value) (o4 : Option Value) (s0 : Int32)  : zeRun 113 5 [some (.ref 16), some (.int l1), o2, o3, o4] [.int s0] (zk B im lm) = if s0 = 0 then zeRun 113 8 [some (.ref 16), some (.int l1), o2, o3, o4] [] (zk B im lm) else zeRun 113 11 [some (.ref 16), some (.int l1), o2, o3, o4] [] (zk B im lm) := ze_if (ok := true) rfl 1 rfl rfl
theorem d_113_8 {B : zeB} {im : Nat → Nat → Int32} {lm : Nat → Nat → Int64} (o0 : Option Value) (o1 : Option Value) (o2 : Option Value) (o3 : Option Value) (o4 : Option Value)  : zeRun 113 8 [o0, o1, o2, o3, o4] [] (zk B im lm) = some (some (.int (-10000001)), (zk B im lm)) := ze_ret (ok := true) rfl 2 rfl rfl
theorem d_113_11 {B : zeB} {im : Nat → Nat → Int32} {lm : Nat → Nat → Int64} (l1 : Int32) (o2 : Option Value) (o3 : Option Value) (o4 : Option Value) (c0 : zeInb l1 6 = true) : zeRun 113 11 [some (.ref 16), some (.int l1), o2, o3, o4] [] (zk B im lm) = if 0 < (im 33 (Int32.toNatClampNeg l1)) then zeRun 113 28 [some (.ref 16), some (.int l1), some (.int (im 33 (Int32.toNatClampNeg l1))), o3, o4] [] (zk B im lm) else zeRun 113 25 [some (.ref 16), some (.int l1), some (.int (im 33 (Int32.toNatClampNeg l1))), o3, o4] [] (zk B im lm) := ze_if (ok := (zeInb l1 6 && true)) rfl 8 rfl (zeA2 c0 rfl)
theorem d_113_28 {B : zeB} {im : Nat → Nat → Int32} {lm : Nat → Nat → Int64} (l1 : Int32) (l2 : Int32) (o3 : Option Value) (o4 : Option Value)  : zeRun 113 28 [some (.ref 16), some (.int l1), some (.int l2), o3, o4] [] (zk B im lm) = zeRun 113 33 [some (.ref 16), some (.int l1), some (.int l2), some (.int 0), some (.int 0)] [] (zk B im lm) := ze_go (ok := true) rfl 4 rfl rfl
theorem d_113_25 {B : zeB} {im : Nat → Nat → Int32} {lm : Nat → Nat → Int64} (o0 : Option Value) (o1 : Option Value) (o2 : Option Value) (o3 : Option Value) (o4 : Option Value)  : zeRun 113 25 [o0, o1, o2, o3, o4] [] (zk B im lm) = some (some (.int (-10000005)), (zk B im lm)) := ze_ret (ok := true) rfl 2 rfl rfl
theorem d_113_33 {B : zeB} {im : Nat → Nat → Int32} {lm : Nat → Nat → Int64} (l1 : Int32) (l2 : Int32) (l3 : Int32) (l4 : Int32)  : zeRun 113 33 [some (.ref 16), some (.int l1), some (.int l2), some (.int l3), some (.int l4)] [] (zk B im lm) = if (im 17 1) ≤ l4 then zeRun 113 79 [some (.ref 16), some (.int l1), some (.int l2), some (.int l3), some (.int l4)] [] (zk B im lm) else zeRun 113 45 [some (.ref 16), some (.int l1), some (.int l2), some (.int l3), some (.int l4)] [] (zk B im lm) := ze_if (ok := true) rfl 5 rfl rfl
theorem d_113_79 {B : zeB} {im : Nat → Nat → Int32} {lm : Nat → Nat → Int64} (o0 : Option Value) (o1 : Option Value) (l2 : Int32) (l3 : Int32) (o4 : Option Value)  : zeRun 113 79 [o0, o1, some (.int l2), some (.int l3), o4] [] (zk B im lm) = if l2 < l3 then zeRun 113 88 [o0, o1, some (.int l2), some (.int l3), o4] [] (zk B im lm) else zeRun 113 84 [o0, o1, some (.int l2), some (.int l3), o4] [] (zk B im lm) := ze_if (ok := true) rfl 3 rfl rfl
theorem d_113_88 {B : zeB} {im : Nat → Nat → Int32} {lm : Nat → Nat → Int64} (o0 : Option Value) (o1 : Option Value) (o2 : Option Value) (o3 : Option Value) (o4 : Option Value)  : zeRun 113 88 [o0, o1, o2, o3, o4] [] (zk B im lm) = some (some (.int (-10000005)), (zk B im lm)) := ze_ret (ok := true) rfl 2 rfl rfl
theorem d_113_84 {B : zeB} {im : Nat → Nat → Int32} {lm : Nat → Nat → Int64} (o0 : Option Value) (o1 : Option Value) (o2 : Option Value) (l3 : Int32) (o4 : Option Value)  : zeRun 113 84 [o0, o1, o2, some (.int l3), o4] [] (zk B im lm) = some (some (.int l3), (zk B im lm)) := ze_ret (ok := true) rfl 3 rfl rfl
theorem d_113_45 {B : zeB} {im : Nat → Nat → Int32} {lm : Nat → Nat → Int64} (l1 : Int32) (l2 : Int32) (l3 : Int32) (l4 : Int32)  : zeRun 113 45 [some (.ref 16), some (.int l1), some (.int l2), some (.int l3), some (.int l4)] [] (zk B im lm) = if l4 = l1 then zeRun 113 73 [some (.ref 16), some (.int l1), some (.int l2), some (.int l3), some (.int l4)] [] (zk B im lm) else zeRun 113 51 [some (.ref 16), some (.int l1), some (.int l2), some (.int l3), some (.int l4)] [] (zk B im lm) := ze_if (ok := true) rfl 3 rfl rfl
theorem d_113_73 {B : zeB} {im : Nat → Nat → Int32} {lm : Nat → Nat → Int64} (l1 : Int32) (l2 : Int32) (l3 : Int32) (l4 : Int32)  : zeRun 113 73 [some (.ref 16), some (.int l1), some (.int l2), some (.int l3), some (.int l4)] [] (zk B im lm) = zeRun 113 33 [some (.ref 16), some (.int l1), some (.int l2), some (.int l3), some (.int (l4 + 1))] [] (zk B im lm) := ze_go (ok := true) rfl 2 rfl rfl
theorem d_113_51 {B : zeB} {im : Nat → Nat → Int32} {lm : Nat → Nat → Int64} (l1 : Int32) (l2 : Int32) (l3 : Int32) (l4 : Int32) (c0 : zeInb l4 6 = true) : zeRun 113 51 [some (.ref 16), some (.int l1), some (.int l2), some (.int l3), some (.int l4)] [] (zk B im lm) = zeBh 113 65 [some (.ref 16), some (.int l1), some (.int l2), some (.int l3), some (.int l4)] [.int l3] (zeRun 112 0 [some (.int (im 33 (Int32.toNatClampNeg l4)))] [] (zk B im lm)) := ze_call (ok := (zeInb l4 6 && true)) rfl 7 rfl rfl (zeA2 c0 rfl)
theorem d_113_65 {B : zeB} {im : Nat → Nat → Int32} {lm : Nat → Nat → Int64} (l1 : Int32) (l2 : Int32) (o3 : Option Value) (l4 : Int32) (s0 : Int32) (s1 : Int32)  : zeRun 113 65 [some (.ref 16), some (.int l1), some (.int l2), o3, some (.int l4)] [.int s1, .int s0] (zk B im lm) = zeRun 113 33 [some (.ref 16), some (.int l1), some (.int l2), some (.int (if s0 < ((s1 + 1) - l2) then ((s1 + 1) - l2) else s0)), some (.int (l4 + 1))] [] (zk B im lm) := ze_go (ok := true) rfl 8 rfl rfl
def F_113_33  : Nat → Int32 → Int32 → Int32 → Int32 → zI → zJ → zR
  | 0, _, _, _, _, _, _ => none
  | n + 1, l1, l2, l3, l4, im, lm =>
    if (im 17 1) ≤ l4 then
      some (if l2 < l3 then (-10000005) else l3, im, lm)
    else
      zCk (if l4 = l1 then true else zeInb l4 6) <|
      F_113_33  n l1 l2 (if l4 = l1 then l3 else (if l3 < (((if (im 33 (Int32.toNatClampNeg l4)) ≤ 0 then (im 33 (Int32.toNatClampNeg l4)) else (2 * (im 33 (Int32.toNatClampNeg l4))) : Int32) + 1) - l2) then (((if (im 33 (Int32.toNatClampNeg l4)) ≤ 0 then (im 33 (Int32.toNatClampNeg l4)) else (2 * (im 33 (Int32.toNatClampNeg l4))) : Int32) + 1) - l2) else l3)) (l4 + 1) im lm
theorem F_113_33_ok {B : zeB} : ∀ (n : Nat) (l1 : Int32) (l2 : Int32) (l3 : Int32) (l4 : Int32)  (im : zI) (lm : zJ), zL B 1 (F_113_33  n l1 l2 l3 l4 im lm) (zeRun 113 33 [some (.ref 16), some (.int l1), some (.int l2), some (.int l3), some (.int l4)] [] (zk B im lm)) := by
  intro n
  induction n with
  | zero => intros; exact zL_none
  | succ n ih =>
    intro l1 l2 l3 l4 im lm
    unfold F_113_33
    refine zL_if (d_113_33 _ _ _ _) (fun h => ?_) (fun h => ?_)
    · skip
      refine zL_ifm (d_113_79 _ _ _ _ _) (fun h => ?_) (fun h => ?_)
      · repeat rw [if_pos h]
        exact zL_ret (d_113_88 _ _ _ _ _)
      · repeat rw [if_neg h]
        exact zL_ret (d_113_84 _ _ _ _ _)
    · skip
      refine zL_ifm (d_113_45 _ _ _ _) (fun h => ?_) (fun h => ?_)
      · repeat rw [if_pos h]
        refine zL_eq (d_113_73 _ _ _ _) ?_
        refine zL_ckt ?_
        exact ih _ _ _ _ _ _
      · repeat rw [if_neg h]
        refine zL_ck fun c1 => ?_
        refine zL_bdp (e := (if (im 33 (Int32.toNatClampNeg l4)) ≤ 0 then (im 33 (Int32.toNatClampNeg l4)) else (2 * (im 33 (Int32.toNatClampNeg l4))) : Int32)) (d_113_51 _ _ _ _ c1) (m_112_ok _ _ _) ?_
        refine zL_eq (d_113_65 _ _ _ _ _ _) ?_
        exact ih _ _ _ _ _ _
def m_113 (l1 : Int32) (im : zI) (lm : zJ) : zR :=
    if (if l1 < 0 then 0 else if (im 17 1) ≤ l1 then 0 else 1 : Int32) = 0 then
      some ((-10000001), im, lm)
    else
      zCk (zeInb l1 6) <|
      if 0 < (im 33 (Int32.toNatClampNeg l1)) then
        F_113_33  2000 l1 (im 33 (Int32.toNatClampNeg l1)) 0 0 im lm
      else
        some ((-10000005), im, lm)
theorem m_113_ok {B : zeB} (l1 : Int32) (im : zI) (lm : zJ) : zL B 1 (m_113 l1 im lm) (zeRun 113 0 [some (.ref 16), some (.int l1), none, none, none] [] (zk B im lm)) := by
  unfold m_113
  refine zL_bdp (e := (if l1 < 0 then 0 else if (im 17 1) ≤ l1 then 0 else 1 : Int32)) (d_113_0 _ _ _ _) (m_38_ok _ _ _) ?_
  refine zL_if (d_113_5 _ _ _ _ _) (fun h => ?_) (fun h => ?_)
  · skip
    exact zL_ret (d_113_8 _ _ _ _ _)
  · skip
    refine zL_ck fun c1 => ?_
    refine zL_if (d_113_11 _ _ _ _ c1) (fun h => ?_) (fun h => ?_)
    · skip
      refine zL_eq (d_113_28 _ _ _ _) ?_
      exact F_113_33_ok  _ _ _ _ _ _ _
    · skip
      exact zL_ret (d_113_25 _ _ _ _ _)
/-! X8_safeWager -/
theorem d_114_0 {B : zeB} {im : Nat → Nat → Int32} {lm : Nat → Nat → Int64} (l1 : Int32) (o2 : Option Value) (o3 : Option Value) (o4 : Option Value)  : zeRun 114 0 [some (.ref 170), some (.int l1), o2, o3, o4] [] (zk B im lm) = zeBh 114 5 [some (.ref 170), some (.int l1), o2, o3, o4] [] (zeRun 44 0 [some (.ref 170), some (.int l1)] [] (zk B im lm)) := ze_call (ok := true) rfl 3 rfl rfl rfl
theorem d_114_5 {B : zeB} {im : Nat → Nat → Int32} {lm : Nat → Nat → Int64} (l1 : Int32) (o2 : Option Value) (o3 : Option Value) (o4 : Option Value) (s0 : Int32)  : zeRun 114 5 [some (.ref 170), some (.int l1), o2, o3, o4] [.int s0] (zk B im lm) = if s0 = 0 then zeRun 114 11 [some (.ref 170), some (.int l1), o2, o3, o4] [] (zk B im lm) else zeRun 114 8 [some (.ref 170), some (.int l1), o2, o3, o4] [] (zk B im lm) := ze_if (ok := true) rfl 1 rfl rfl
theorem d_114_11 {B : zeB} {im : Nat → Nat → Int32} {lm : Nat → Nat → Int64} (l1 : Int32) (o2 : Option Value) (o3 : Option Value) (o4 : Option Value)  : zeRun 114 11 [some (.ref 170), some (.int l1), o2, o3, o4] [] (zk B im lm) = zeBh 114 15 [some (.ref 170), some (.int l1), o2, o3, o4] [] (zeRun 47 0 [some (.ref 170), none, none, none, none, none, none] [] (zk B im lm)) := ze_call (ok := true) rfl 2 rfl rfl rfl
theorem d_114_15 {B : zeB} {im : Nat → Nat → Int32} {lm : Nat → Nat → Int64} (l1 : Int32) (o2 : Option Value) (o3 : Option Value) (o4 : Option Value)  : zeRun 114 15 [some (.ref 170), some (.int l1), o2, o3, o4] [] (zk B im lm) = zeRun 114 20 [some (.ref 170), some (.int l1), some (.int (-1000000000)), some (.int 0), o4] [] (zk B im lm) := ze_go (ok := true) rfl 4 rfl rfl
theorem d_114_8 {B : zeB} {im : Nat → Nat → Int32} {lm : Nat → Nat → Int64} (o0 : Option Value) (o1 : Option Value) (o2 : Option Value) (o3 : Option Value) (o4 : Option Value)  : zeRun 114 8 [o0, o1, o2, o3, o4] [] (zk B im lm) = some (some (.int (-10000001)), (zk B im lm)) := ze_ret (ok := true) rfl 2 rfl rfl
theorem d_114_20 {B : zeB} {im : Nat → Nat → Int32} {lm : Nat → Nat → Int64} (l1 : Int32) (l2 : Int32) (l3 : Int32) (o4 : Option Value)  : zeRun 114 20 [some (.ref 170), some (.int l1), some (.int l2), some (.int l3), o4] [] (zk B im lm) = if (im 171 1) ≤ l3 then zeRun 114 82 [some (.ref 170), some (.int l1), some (.int l2), some (.int l3), o4] [] (zk B im lm) else zeRun 114 30 [some (.ref 170), some (.int l1), some (.int l2), some (.int l3), o4] [] (zk B im lm) := ze_if (ok := true) rfl 6 rfl rfl
theorem d_114_82 {B : zeB} {im : Nat → Nat → Int32} {lm : Nat → Nat → Int64} (l1 : Int32) (l2 : Int32) (o3 : Option Value) (o4 : Option Value) (c0 : zeInb l1 6 = true) : zeRun 114 82 [some (.ref 170), some (.int l1), some (.int l2), o3, o4] [] (zk B im lm) = if (im 175 (Int32.toNatClampNeg l1)) ≤ l2 then zeRun 114 96 [some (.ref 170), some (.int l1), some (.int l2), o3, o4] [] (zk B im lm) else zeRun 114 92 [some (.ref 170), some (.int l1), some (.int l2), o3, o4] [] (zk B im lm) := ze_if (ok := (zeInb l1 6 && true)) rfl 6 rfl (zeA2 c0 rfl)
theorem d_114_96 {B : zeB} {im : Nat → Nat → Int32} {lm : Nat → Nat → Int64} (l1 : Int32) (l2 : Int32) (o3 : Option Value) (o4 : Option Value) (c0 : zeInb l1 6 = true) : zeRun 114 96 [some (.ref 170), some (.int l1), some (.int l2), o3, o4] [] (zk B im lm) = zeRun 114 106 [some (.ref 170), some (.int l1), some (.int l2), o3, o4] [.int ((l2 - (im 175 (Int32.toNatClampNeg l1))) + 1)] (zk B im lm) := ze_go (ok := (zeInb l1 6 && true)) rfl 8 rfl (zeA2 c0 rfl)
theorem d_114_92 {B : zeB} {im : Nat → Nat → Int32} {lm : Nat → Nat → Int64} (l1 : Int32) (o2 : Option Value) (o3 : Option Value) (o4 : Option Value)  : zeRun 114 92 [some (.ref 170), some (.int l1), o2, o3, o4] [] (zk B im lm) = zeRun 114 106 [some (.ref 170), some (.int l1), o2, o3, o4] [.int 0] (zk B im lm) := ze_go (ok := true) rfl 2 rfl rfl
theorem d_114_30 {B : zeB} {im : Nat → Nat → Int32} {lm : Nat → Nat → Int64} (l1 : Int32) (l2 : Int32) (l3 : Int32) (o4 : Option Value) (c0 : zeInb l3 6 = true) : zeRun 114 30 [some (.ref 170), some (.int l1), some (.int l2), some (.int l3), o4] [] (zk B im lm) = if (im 175 (Int32.toNatClampNeg l3)) ≤ 0 then zeRun 114 50 [some (.ref 170), some (.int l1), some (.int l2), some (.int l3), o4] [] (zk B im lm) else zeRun 114 39 [some (.ref 170), some (.int l1), some (.int l2), some (.int l3), o4] [] (zk B im lm) := ze_if (ok := (zeInb l3 6 && true)) rfl 5 rfl (zeA2 c0 rfl)
theorem d_114_50 {B : zeB} {im : Nat → Nat → Int32} {lm : Nat → Nat → Int64} (l1 : Int32) (l2 : Int32) (l3 : Int32) (o4 : Option Value) (c0 : zeInb l3 6 = true) : zeRun 114 50 [some (.ref 170), some (.int l1), some (.int l2), some (.int l3), o4] [] (zk B im lm) = zeRun 114 56 [some (.ref 170), some (.int l1), some (.int l2), some (.int l3), o4] [.int (im 175 (Int32.toNatClampNeg l3))] (zk B im lm) := ze_go (ok := (zeInb l3 6 && true)) rfl 4 rfl (zeA2 c0 rfl)
theorem d_114_39 {B : zeB} {im : Nat → Nat → Int32} {lm : Nat → Nat → Int64} (l1 : Int32) (l2 : Int32) (l3 : Int32) (o4 : Option Value) (c0 : zeInb l3 6 = true) : zeRun 114 39 [some (.ref 170), some (.int l1), some (.int l2), some (.int l3), o4] [] (zk B im lm) = zeRun 114 56 [some (.ref 170), some (.int l1), some (.int l2), some (.int l3), o4] [.int (2 * (im 175 (Int32.toNatClampNeg l3)))] (zk B im lm) := ze_go (ok := (zeInb l3 6 && true)) rfl 7 rfl (zeA2 c0 rfl)
theorem d_114_56 {B : zeB} {im : Nat → Nat → Int32} {lm : Nat → Nat → Int64} (l1 : Int32) (l2 : Int32) (l3 : Int32) (o4 : Option Value) (s0 : Int32)  : zeRun 114 56 [some (.ref 170), some (.int l1), some (.int l2), some (.int l3), o4] [.int s0] (zk B im lm) = if l3 = l1 then zeRun 114 74 [some (.ref 170), some (.int l1), some (.int l2), some (.int l3), some (.int s0)] [] (zk B im lm) else zeRun 114 63 [some (.ref 170), some (.int l1), some (.int l2), some (.int l3), some (.int s0)] [] (zk B im lm) := ze_if (ok := true) rfl 4 rfl rfl
theorem d_114_74 {B : zeB} {im : Nat → Nat → Int32} {lm : Nat → Nat → Int64} (l1 : Int32) (l2 : Int32) (l3 : Int32) (o4 : Option Value)  : zeRun 114 74 [some (.ref 170), some (.int l1), some (.int l2), some (.int l3), o4] [] (zk B im lm) = zeRun 114 20 [some (.ref 170), some (.int l1), some (.int l2), some (.int (l3 + 1)), o4] [] (zk B im lm) := ze_go (ok := true) rfl 4 rfl rfl
theorem d_114_63 {B : zeB} {im : Nat → Nat → Int32} {lm : Nat → Nat → Int64} (l1 : Int32) (l2 : Int32) (l3 : Int32) (l4 : Int32)  : zeRun 114 63 [some (.ref 170), some (.int l1), some (.int l2), some (.int l3), some (.int l4)] [] (zk B im lm) = if l4 ≤ l2 then zeRun 114 74 [some (.ref 170), some (.int l1), some (.int l2), some (.int l3), some (.int l4)] [] (zk B im lm) else zeRun 114 69 [some (.ref 170), some (.int l1), some (.int l2), some (.int l3), some (.int l4)] [] (zk B im lm) := ze_if (ok := true) rfl 3 rfl rfl
theorem d_114_69 {B : zeB} {im : Nat → Nat → Int32} {lm : Nat → Nat → Int64} (l1 : Int32) (o2 : Option Value) (l3 : Int32) (l4 : Int32)  : zeRun 114 69 [some (.ref 170), some (.int l1), o2, some (.int l3), some (.int l4)] [] (zk B im lm) = zeRun 114 20 [some (.ref 170), some (.int l1), some (.int l4), some (.int (l3 + 1)), some (.int l4)] [] (zk B im lm) := ze_go (ok := true) rfl 5 rfl rfl
theorem d_114_106 {B : zeB} {im : Nat → Nat → Int32} {lm : Nat → Nat → Int64} (l1 : Int32) (o2 : Option Value) (o3 : Option Value) (o4 : Option Value) (s0 : Int32) (c0 : zeInb l1 6 = true) : zeRun 114 106 [some (.ref 170), some (.int l1), o2, o3, o4] [.int s0] (zk B im lm) = if (im 175 (Int32.toNatClampNeg l1)) ≤ 0 then zeRun 114 126 [some (.ref 170), some (.int l1), o2, some (.int s0), o4] [] (zk B im lm) else zeRun 114 116 [some (.ref 170), some (.int l1), o2, some (.int s0), o4] [] (zk B im lm) := ze_if (ok := (zeInb l1 6 && true)) rfl 6 rfl (zeA2 c0 rfl)
theorem d_114_126 {B : zeB} {im : Nat → Nat → Int32} {lm : Nat → Nat → Int64} (o0 : Option Value) (o1 : Option Value) (o2 : Option Value) (o3 : Option Value) (o4 : Option Value)  : zeRun 114 126 [o0, o1, o2, o3, o4] [] (zk B im lm) = some (some (.int (-10000005)), (zk B im lm)) := ze_ret (ok := true) rfl 3 rfl rfl
theorem d_114_116 {B : zeB} {im : Nat → Nat → Int32} {lm : Nat → Nat → Int64} (l1 : Int32) (o2 : Option Value) (l3 : Int32) (o4 : Option Value) (c0 : zeInb l1 6 = true) : zeRun 114 116 [some (.ref 170), some (.int l1), o2, some (.int l3), o4] [] (zk B im lm) = if l3 ≤ (im 175 (Int32.toNatClampNeg l1)) then zeRun 114 131 [some (.ref 170), some (.int l1), o2, some (.int l3), o4] [] (zk B im lm) else zeRun 114 126 [some (.ref 170), some (.int l1), o2, some (.int l3), o4] [] (zk B im lm) := ze_if (ok := (zeInb l1 6 && true)) rfl 6 rfl (zeA2 c0 rfl)
theorem d_114_131 {B : zeB} {im : Nat → Nat → Int32} {lm : Nat → Nat → Int64} (o0 : Option Value) (o1 : Option Value) (o2 : Option Value) (l3 : Int32) (o4 : Option Value)  : zeRun 114 131 [o0, o1, o2, some (.int l3), o4] [] (zk B im lm) = some (some (.int l3), (zk B im lm)) := ze_ret (ok := true) rfl 2 rfl rfl
def J_114_106  (l1 : Int32) (s0 : Int32) (im : zI) (lm : zJ) : zR :=
    zCk (zeInb l1 6) <|
    some (if (im 175 (Int32.toNatClampNeg l1)) ≤ 0 then (-10000005) else if s0 ≤ (im 175 (Int32.toNatClampNeg l1)) then s0 else (-10000005), im, lm)
theorem J_114_106_ok {B : zeB} (l1 : Int32) (s0 : Int32) (o2 : Option Value) (o3 : Option Value) (o4 : Option Value) (im : zI) (lm : zJ) : zL B 1 (J_114_106  l1 s0 im lm) (zeRun 114 106 [some (.ref 170), some (.int l1), o2, o3, o4] [.int s0] (zk B im lm)) := by
  unfold J_114_106
  refine zL_ck fun c1 => ?_
  refine zL_ifm (d_114_106 _ _ _ _ _ c1) (fun h => ?_) (fun h => ?_)
  · repeat rw [if_pos h]
    exact zL_ret (d_114_126 _ _ _ _ _)
  · repeat rw [if_neg h]
    refine zL_ifm (d_114_116 _ _ _ _ c1) (fun h => ?_) (fun h => ?_)
    · repeat rw [if_pos h]
      exact zL_ret (d_114_131 _ _ _ _ _)
    · repeat rw [if_neg h]
      exact zL_ret (d_114_126 _ _ _ _ _)
def J_114_56 (K20 : Int32 → Int32 → Int32 → zI → zJ → zR) (l1 : Int32) (l2 : Int32) (l3 : Int32) (s0 : Int32) (im : zI) (lm : zJ) : zR :=
    K20 l1 (if l3 = l1 then l2 else if s0 ≤ l2 then l2 else s0) (l3 + 1) im lm
theorem J_114_56_ok {B : zeB} (K20 : Int32 → Int32 → Int32 → zI → zJ → zR) (hK20 : ∀ (l1 : Int32) (l2 : Int32) (l3 : Int32) (o4 : Option Value) (im : zI) (lm : zJ), zL B 1 (K20 l1 l2 l3 im lm) (zeRun 114 20 [some (.ref 170), some (.int l1), some (.int l2), some (.int l3), o4] [] (zk B im lm))) (l1 : Int32) (l2 : Int32) (l3 : Int32) (s0 : Int32) (o4 : Option Value) (im : zI) (lm : zJ) : zL B 1 (J_114_56 K20 l1 l2 l3 s0 im lm) (zeRun 114 56 [some (.ref 170), some (.int l1), some (.int l2), some (.int l3), o4] [.int s0] (zk B im lm)) := by
  unfold J_114_56
  refine zL_ifm (d_114_56 _ _ _ _ _) (fun h => ?_) (fun h => ?_)
  · repeat rw [if_pos h]
    refine zL_eq (d_114_74 _ _ _ _) ?_
    exact hK20 _ _ _ _ _ _
  · repeat rw [if_neg h]
    refine zL_ifm (d_114_63 _ _ _ _) (fun h => ?_) (fun h => ?_)
    · repeat rw [if_pos h]
      refine zL_eq (d_114_74 _ _ _ _) ?_
      exact hK20 _ _ _ _ _ _
    · repeat rw [if_neg h]
      refine zL_eq (d_114_69 _ _ _ _) ?_
      exact hK20 _ _ _ _ _ _
def F_114_20  : Nat → Int32 → Int32 → Int32 → zI → zJ → zR
  | 0, _, _, _, _, _ => none
  | n + 1, l1, l2, l3, im, lm =>
    if (im 171 1) ≤ l3 then
      zCk (zeInb l1 6) <|
      J_114_106   l1 (if (im 175 (Int32.toNatClampNeg l1)) ≤ l2 then ((l2 - (im 175 (Int32.toNatClampNeg l1))) + 1) else 0) im lm
    else
      zCk (zeInb l3 6) <|
      J_114_56 (F_114_20  n)  l1 l2 l3 (if (im 175 (Int32.toNatClampNeg l3)) ≤ 0 then (im 175 (Int32.toNatClampNeg l3)) else (2 * (im 175 (Int32.toNatClampNeg l3)))) im lm
theorem F_114_20_ok {B : zeB} : ∀ (n : Nat) (l1 : Int32) (l2 : Int32) (l3 : Int32) (o4 : Option Value) (im : zI) (lm : zJ), zL B 1 (F_114_20  n l1 l2 l3 im lm) (zeRun 114 20 [some (.ref 170), some (.int l1), some (.int l2), some (.int l3), o4] [] (zk B im lm)) := by
  intro n
  induction n with
  | zero => intros; exact zL_none
  | succ n ih =>
    intro l1 l2 l3 o4 im lm
    unfold F_114_20
    refine zL_if (d_114_20 _ _ _ _) (fun h => ?_) (fun h => ?_)
    · skip
      refine zL_ck fun c1 => ?_
      refine zL_ifm (d_114_82 _ _ _ _ c1) (fun h => ?_) (fun h => ?_)
      · repeat rw [if_pos h]
        refine zL_eq (d_114_96 _ _ _ _ c1) ?_
        exact J_114_106_ok   _ _ _ _ _ _ _
      · repeat rw [if_neg h]
        refine zL_eq (d_114_92 _ _ _ _) ?_
        exact J_114_106_ok   _ _ _ _ _ _ _
    · skip
      refine zL_ck fun c2 => ?_
      refine zL_ifm (d_114_30 _ _ _ _ c2) (fun h => ?_) (fun h => ?_)
      · repeat rw [if_pos h]
        refine zL_eq (d_114_50 _ _ _ _ c2) ?_
        exact J_114_56_ok _ ih  _ _ _ _ _ _ _
      · repeat rw [if_neg h]
        refine zL_eq (d_114_39 _ _ _ _ c2) ?_
        exact J_114_56_ok _ ih  _ _ _ _ _ _ _
def m_114 (l1 : Int32) (im : zI) (lm : zJ) : zR :=
    if (if (if l1 < 0 then 0 else if ((im 171 1) - 1) < l1 then 0 else 1 : Int32) = 0 then 1 else 0 : Int32) = 0 then
      zBd (m_47  im lm) fun _ im2 lm2 =>
      F_114_20  2000 l1 (-1000000000) 0 im2 lm2
    else
      some ((-10000001), im, lm)
theorem m_114_ok {B : zeB} (l1 : Int32) (im : zI) (lm : zJ) : zL B 1 (m_114 l1 im lm) (zeRun 114 0 [some (.ref 170), some (.int l1), none, none, none] [] (zk B im lm)) := by
  unfold m_114
  refine zL_bdp (e := (if (if l1 < 0 then 0 else if ((im 171 1) - 1) < l1 then 0 else 1 : Int32) = 0 then 1 else 0 : Int32)) (d_114_0 _ _ _ _) (m_44_ok _ _ _) ?_
  refine zL_if (d_114_5 _ _ _ _ _) (fun h => ?_) (fun h => ?_)
  · skip
    refine zL_bdv (d_114_11 _ _ _ _) (m_47_ok _ _) fun _ im2 lm2 => ?_
    refine zL_eq (d_114_15 _ _ _ _) ?_
    exact F_114_20_ok  _ _ _ _ _ _ _
  · skip
    exact zL_ret (d_114_8 _ _ _ _ _)
