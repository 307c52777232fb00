/-! pure: X8_leaders, X8_count, X8_write, X8_writeNumber, X8_messageAt -/
/-! X8_leaders -/
theorem d_178_0 {B : zeB} {im : Nat → Nat → Int32} {lm : Nat → Nat → Int64} (o1 : Option Value) (o2 : Option Value)  : zeRun 178 0 [some (.ref 170), o1, o2] [] (zk B im lm) = zeRun 178 4 [some (.ref 170), some (.int 0), some (.int 0)] [] (zk B im lm) := ze_go (ok := true) rfl 4 rfl rfl
theorem d_178_4 {B : zeB} {im : Nat → Nat → Int32} {lm : Nat → Nat → Int64} (l1 : Int32) (l2 : Int32)  : zeRun 178 4 [some (.ref 170), some (.int l1), some (.int l2)] [] (zk B im lm) = if (im 171 1) ≤ l2 then zeRun 178 39 [some (.ref 170), some (.int l1), some (.int l2)] [] (zk B im lm) else zeRun 178 14 [some (.ref 170), some (.int l1), some (.int l2)] [] (zk B im lm) := ze_if (ok := true) rfl 6 rfl rfl
theorem d_178_39 {B : zeB} {im : Nat → Nat → Int32} {lm : Nat → Nat → Int64} (o0 : Option Value) (l1 : Int32) (o2 : Option Value)  : zeRun 178 39 [o0, some (.int l1), o2] [] (zk B im lm) = some (some (.int l1), (zk B im lm)) := ze_ret (ok := true) rfl 2 rfl rfl
theorem d_178_14 {B : zeB} {im : Nat → Nat → Int32} {lm : Nat → Nat → Int64} (l1 : Int32) (l2 : Int32)  : zeRun 178 14 [some (.ref 170), some (.int l1), some (.int l2)] [] (zk B im lm) = zeBh 178 20 [some (.ref 170), some (.int l1), some (.int l2)] [.int l1] (zeRun 157 0 [some (.ref 170), some (.int l2), none, none] [] (zk B im lm)) := ze_call (ok := true) rfl 4 rfl rfl rfl
theorem d_178_20 {B : zeB} {im : Nat → Nat → Int32} {lm : Nat → Nat → Int64} (o1 : Option Value) (l2 : Int32) (s0 : Int32) (s1 : Int32)  : zeRun 178 20 [some (.ref 170), o1, some (.int l2)] [.int s1, .int s0] (zk B im lm) = if s1 = 1 then zeRun 178 24 [some (.ref 170), o1, some (.int l2)] [.int s0] (zk B im lm) else zeRun 178 30 [some (.ref 170), o1, some (.int l2)] [.int s0] (zk B im lm) := ze_if (ok := true) rfl 2 rfl rfl
theorem d_178_24 {B : zeB} {im : Nat → Nat → Int32} {lm : Nat → Nat → Int64} (o1 : Option Value) (l2 : Int32) (s0 : Int32)  : zeRun 178 24 [some (.ref 170), o1, some (.int l2)] [.int s0] (zk B im lm) = zeRun 178 4 [some (.ref 170), some (.int (s0 ||| (1 <<< (l2 &&& 31)))), some (.int (l2 + 1))] [] (zk B im lm) := ze_go (ok := true) rfl 8 rfl rfl
theorem d_178_30 {B : zeB} {im : Nat → Nat → Int32} {lm : Nat → Nat → Int64} (o1 : Option Value) (l2 : Int32) (s0 : Int32)  : zeRun 178 30 [some (.ref 170), o1, some (.int l2)] [.int s0] (zk B im lm) = zeRun 178 4 [some (.ref 170), some (.int (s0 ||| 0)), some (.int (l2 + 1))] [] (zk B im lm) := ze_go (ok := true) rfl 5 rfl rfl
def F_178_4  : Nat → Int32 → Int32 → zI → zJ → zR
  | 0, _, _, _, _ => none
  | n + 1, l1, l2, im, lm =>
    if (im 171 1) ≤ l2 then
      some (l1, im, lm)
    else
      zBd (m_157 l2 im lm) fun v1 im1 lm1 =>
      F_178_4  n (if v1 = 1 then (l1 ||| (1 <<< (l2 &&& 31))) else (l1 ||| 0)) (l2 + 1) im1 lm1
theorem F_178_4_ok {B : zeB} : ∀ (n : Nat) (l1 : Int32) (l2 : Int32)  (im : zI) (lm : zJ), zL B 1 (F_178_4  n l1 l2 im lm) (zeRun 178 4 [some (.ref 170), some (.int l1), some (.int l2)] [] (zk B im lm)) := by
  intro n
  induction n with
  | zero => intros; exact zL_none
  | succ n ih =>
    intro l1 l2 im lm
    unfold F_178_4
    refine zL_if (d_178_4 _ _) (fun h => ?_) (fun h => ?_)
    · skip
      exact zL_ret (d_178_39 _ _ _)
    · skip
      refine zL_bd (d_178_14 _ _) (m_157_ok _ _ _) fun v1 im1 lm1 => ?_
      refine zL_ifm (d_178_20 _ _ _ _) (fun h => ?_) (fun h => ?_)
      · repeat rw [if_pos h]
        refine zL_eq (d_178_24 _ _ _) ?_
        exact ih _ _ _ _
      · repeat rw [if_neg h]
        refine zL_eq (d_178_30 _ _ _) ?_
        exact ih _ _ _ _
def m_178  (im : zI) (lm : zJ) : zR :=
    F_178_4  2000 0 0 im lm
theorem m_178_ok {B : zeB}  (im : zI) (lm : zJ) : zL B 1 (m_178  im lm) (zeRun 178 0 [some (.ref 170), none, none] [] (zk B im lm)) := by
  unfold m_178
  refine zL_eq (d_178_0 _ _) ?_
  exact F_178_4_ok  _ _ _ _ _
/-! X8_count -/
theorem d_179_0 {B : zeB} {im : Nat → Nat → Int32} {lm : Nat → Nat → Int64} (l1 : Int32)  : zeRun 179 0 [some (.ref 170), some (.int l1)] [] (zk B im lm) = zeBh 179 4 [some (.ref 170), some (.int l1)] [] (zeRun 47 0 [some (.ref 170), none, none, none, none, none, none] [] (zk B im lm)) := ze_call (ok := true) rfl 2 rfl rfl rfl
theorem d_179_4 {B : zeB} {im : Nat → Nat → Int32} {lm : Nat → Nat → Int64} (l1 : Int32)  : zeRun 179 4 [some (.ref 170), some (.int l1)] [] (zk B im lm) = zeRun 179 (zeSw l1 228 [(0, 80), (1, 87), (2, 94), (3, 108), (4, 118), (5, 123), (6, 130), (7, 135), (8, 177), (9, 177), (10, 177), (11, 190), (12, 195), (13, 200), (14, 205)]) [some (.ref 170), some (.int l1)] [] (zk B im lm) := ze_go (ok := true) rfl 2 rfl rfl
theorem d_179_80 {B : zeB} {im : Nat → Nat → Int32} {lm : Nat → Nat → Int64} (o1 : Option Value)  : zeRun 179 80 [some (.ref 170), o1] [] (zk B im lm) = some (some (.int (im 171 0)), (zk B im lm)) := ze_ret (ok := true) rfl 5 rfl rfl
theorem d_179_87 {B : zeB} {im : Nat → Nat → Int32} {lm : Nat → Nat → Int64} (o1 : Option Value)  : zeRun 179 87 [some (.ref 170), o1] [] (zk B im lm) = some (some (.int (im 171 1)), (zk B im lm)) := ze_ret (ok := true) rfl 5 rfl rfl
theorem d_179_94 {B : zeB} {im : Nat → Nat → Int32} {lm : Nat → Nat → Int64} (o1 : Option Value)  : zeRun 179 94 [some (.ref 170), o1] [] (zk B im lm) = zeBh 179 106 [some (.ref 170), o1] [.int 25] (zeRun 33 0 [some (.int (im 171 10)), none, none] [] (zk B im lm)) := ze_call (ok := true) rfl 6 rfl rfl rfl
theorem d_179_106 {B : zeB} {im : Nat → Nat → Int32} {lm : Nat → Nat → Int64} (o0 : Option Value) (o1 : Option Value) (s0 : Int32) (s1 : Int32)  : zeRun 179 106 [o0, o1] [.int s1, .int s0] (zk B im lm) = some (some (.int (s0 - s1)), (zk B im lm)) := ze_ret (ok := true) rfl 2 rfl rfl
theorem d_179_108 {B : zeB} {im : Nat → Nat → Int32} {lm : Nat → Nat → Int64} (o1 : Option Value)  : zeRun 179 108 [some (.ref 170), o1] [] (zk B im lm) = zeBh 179 117 [some (.ref 170), o1] [] (zeRun 160 0 [some (.int (im 171 2))] [] (zk B im lm)) := ze_call (ok := true) rfl 5 rfl rfl rfl
theorem d_179_117 {B : zeB} {im : Nat → Nat → Int32} {lm : Nat → Nat → Int64} (o0 : Option Value) (o1 : Option Value) (s0 : Int32)  : zeRun 179 117 [o0, o1] [.int s0] (zk B im lm) = some (some (.int s0), (zk B im lm)) := ze_ret (ok := true) rfl 1 rfl rfl
theorem d_179_118 {B : zeB} {im : Nat → Nat → Int32} {lm : Nat → Nat → Int64} (o1 : Option Value)  : zeRun 179 118 [some (.ref 170), o1] [] (zk B im lm) = some (some (.int (im 170 13)), (zk B im lm)) := ze_ret (ok := true) rfl 3 rfl rfl
theorem d_179_123 {B : zeB} {im : Nat → Nat → Int32} {lm : Nat → Nat → Int64} (o1 : Option Value)  : zeRun 179 123 [some (.ref 170), o1] [] (zk B im lm) = some (some (.int (im 171 5)), (zk B im lm)) := ze_ret (ok := true) rfl 5 rfl rfl
theorem d_179_130 {B : zeB} {im : Nat → Nat → Int32} {lm : Nat → Nat → Int64} (o1 : Option Value)  : zeRun 179 130 [some (.ref 170), o1] [] (zk B im lm) = zeBh 179 134 [some (.ref 170), o1] [] (zeRun 178 0 [some (.ref 170), none, none] [] (zk B im lm)) := ze_call (ok := true) rfl 2 rfl rfl rfl
theorem d_179_134 {B : zeB} {im : Nat → Nat → Int32} {lm : Nat → Nat → Int64} (o0 : Option Value) (o1 : Option Value) (s0 : Int32)  : zeRun 179 134 [o0, o1] [.int s0] (zk B im lm) = some (some (.int s0), (zk B im lm)) := ze_ret (ok := true) rfl 1 rfl rfl
theorem d_179_135 {B : zeB} {im : Nat → Nat → Int32} {lm : Nat → Nat → Int64} (o1 : Option Value)  : zeRun 179 135 [some (.ref 170), o1] [] (zk B im lm) = some (some (.int ((((((im 175 0) + (im 175 1)) + (im 175 2)) + (im 175 3)) + (im 175 4)) + (im 175 5))), (zk B im lm)) := ze_ret (ok := true) rfl 30 rfl rfl
theorem d_179_177 {B : zeB} {im : Nat → Nat → Int32} {lm : Nat → Nat → Int64} (l1 : Int32) (c0 : zeInb ((6 + l1) - 8) 360 = true) : zeRun 179 177 [some (.ref 170), some (.int l1)] [] (zk B im lm) = some (some (.int (im 171 (Int32.toNatClampNeg ((6 + l1) - 8)))), (zk B im lm)) := ze_ret (ok := (zeInb ((6 + l1) - 8) 360 && true)) rfl 9 rfl (zeA2 c0 rfl)
theorem d_179_190 {B : zeB} {im : Nat → Nat → Int32} {lm : Nat → Nat → Int64} (o1 : Option Value)  : zeRun 179 190 [some (.ref 170), o1] [] (zk B im lm) = some (some (.int (im 170 5)), (zk B im lm)) := ze_ret (ok := true) rfl 3 rfl rfl
theorem d_179_195 {B : zeB} {im : Nat → Nat → Int32} {lm : Nat → Nat → Int64} (o1 : Option Value)  : zeRun 179 195 [some (.ref 170), o1] [] (zk B im lm) = some (some (.int (im 170 2)), (zk B im lm)) := ze_ret (ok := true) rfl 3 rfl rfl
theorem d_179_200 {B : zeB} {im : Nat → Nat → Int32} {lm : Nat → Nat → Int64} (o1 : Option Value)  : zeRun 179 200 [some (.ref 170), o1] [] (zk B im lm) = some (some (.int (im 170 16)), (zk B im lm)) := ze_ret (ok := true) rfl 3 rfl rfl
theorem d_179_205 {B : zeB} {im : Nat → Nat → Int32} {lm : Nat → Nat → Int64} (o1 : Option Value)  : zeRun 179 205 [some (.ref 170), o1] [] (zk B im lm) = if (im 171 0) = 5 then zeRun 179 215 [some (.ref 170), o1] [] (zk B im lm) else zeRun 179 225 [some (.ref 170), o1] [] (zk B im lm) := ze_if (ok := true) rfl 6 rfl rfl
theorem d_179_215 {B : zeB} {im : Nat → Nat → Int32} {lm : Nat → Nat → Int64} (o1 : Option Value)  : zeRun 179 215 [some (.ref 170), o1] [] (zk B im lm) = zeBh 179 219 [some (.ref 170), o1] [] (zeRun 88 0 [some (.ref 170), none, none, none] [] (zk B im lm)) := ze_call (ok := true) rfl 2 rfl rfl rfl
theorem d_179_219 {B : zeB} {im : Nat → Nat → Int32} {lm : Nat → Nat → Int64} (o0 : Option Value) (o1 : Option Value) (s0 : Int32)  : zeRun 179 219 [o0, o1] [.int s0] (zk B im lm) = zeBh 179 222 [o0, o1] [] (zeRun 160 0 [some (.int s0)] [] (zk B im lm)) := ze_call (ok := true) rfl 1 rfl rfl rfl
theorem d_179_222 {B : zeB} {im : Nat → Nat → Int32} {lm : Nat → Nat → Int64} (o0 : Option Value) (o1 : Option Value) (s0 : Int32)  : zeRun 179 222 [o0, o1] [.int s0] (zk B im lm) = some (some (.int s0), (zk B im lm)) := ze_ret (ok := true) rfl 2 rfl rfl
theorem d_179_225 {B : zeB} {im : Nat → Nat → Int32} {lm : Nat → Nat → Int64} (o0 : Option Value) (o1 : Option Value)  : zeRun 179 225 [o0, o1] [] (zk B im lm) = some (some (.int (-10000005)), (zk B im lm)) := ze_ret (ok := true) rfl 2 rfl rfl
theorem d_179_228 {B : zeB} {im : Nat → Nat → Int32} {lm : Nat → Nat → Int64} (o0 : Option Value) (o1 : Option Value)  : zeRun 179 228 [o0, o1] [] (zk B im lm) = some (some (.int (-10000002)), (zk B im lm)) := ze_ret (ok := true) rfl 2 rfl rfl
def m_179 (l1 : Int32) (im : zI) (lm : zJ) : zR :=
    zBd (m_47  im lm) fun _ im1 lm1 =>
    if l1 = 0 then
      some ((im1 171 0), im1, lm1)
    else
      if l1 = 1 then
        some ((im1 171 1), im1, lm1)
      else
        if l1 = 2 then
          zBd (m_33 (im1 171 10) im1 lm1) fun v2 im2 lm2 =>
          some ((25 - v2), im2, lm2)
        else
          if l1 = 3 then
            some ((if 0 ≤ (im1 171 2) then (im1 171 2) else (-10000005) : Int32), im1, lm1)
          else
            if l1 = 4 then
              some ((im1 170 13), im1, lm1)
            else
              if l1 = 5 then
                some ((im1 171 5), im1, lm1)
              else
                if l1 = 6 then
                  zBd (m_178  im1 lm1) fun v4 im4 lm4 =>
                  some (v4, im4, lm4)
                else
                  if l1 = 7 then
                    some (((((((im1 175 0) + (im1 175 1)) + (im1 175 2)) + (im1 175 3)) + (im1 175 4)) + (im1 175 5)), im1, lm1)
                  else
                    if l1 = 8 then
                      zCk (zeInb ((6 + l1) - 8) 360) <|
                      some ((im1 171 (Int32.toNatClampNeg ((6 + l1) - 8))), im1, lm1)
                    else
                      if l1 = 9 then
                        zCk (zeInb ((6 + l1) - 8) 360) <|
                        some ((im1 171 (Int32.toNatClampNeg ((6 + l1) - 8))), im1, lm1)
                      else
                        if l1 = 10 then
                          zCk (zeInb ((6 + l1) - 8) 360) <|
                          some ((im1 171 (Int32.toNatClampNeg ((6 + l1) - 8))), im1, lm1)
                        else
                          if l1 = 11 then
                            some ((im1 170 5), im1, lm1)
                          else
                            if l1 = 12 then
                              some ((im1 170 2), im1, lm1)
                            else
                              if l1 = 13 then
                                some ((im1 170 16), im1, lm1)
                              else
                                if l1 = 14 then
                                  if (im1 171 0) = 5 then
                                    zBd (m_88  im1 lm1) fun v5 im5 lm5 =>
                                    some ((if 0 ≤ v5 then v5 else (-10000005) : Int32), im5, lm5)
                                  else
                                    some ((-10000005), im1, lm1)
                                else
                                  some ((-10000002), im1, lm1)
theorem m_179_ok {B : zeB} (l1 : Int32) (im : zI) (lm : zJ) : zL B 1 (m_179 l1 im lm) (zeRun 179 0 [some (.ref 170), some (.int l1)] [] (zk B im lm)) := by
  unfold m_179
  refine zL_bdv (d_179_0 _) (m_47_ok _ _) fun _ im1 lm1 => ?_
  refine zL_eq (d_179_4 _) ?_
  refine zL_sw (fun h => ?_) (fun h => ?_)
  · skip
    exact zL_ret (d_179_80 _)
  refine zL_sw (fun h => ?_) (fun h => ?_)
  · skip
    exact zL_ret (d_179_87 _)
  refine zL_sw (fun h => ?_) (fun h => ?_)
  · skip
    refine zL_bd (d_179_94 _) (m_33_ok _ _ _) fun v2 im2 lm2 => ?_
    exact zL_ret (d_179_106 _ _ _ _)
  refine zL_sw (fun h => ?_) (fun h => ?_)
  · skip
    refine zL_bdp (e := (if 0 ≤ (im1 171 2) then (im1 171 2) else (-10000005) : Int32)) (d_179_108 _) (m_160_ok _ _ _) ?_
    exact zL_ret (d_179_117 _ _ _)
  refine zL_sw (fun h => ?_) (fun h => ?_)
  · skip
    exact zL_ret (d_179_118 _)
  refine zL_sw (fun h => ?_) (fun h => ?_)
  · skip
    exact zL_ret (d_179_123 _)
  refine zL_sw (fun h => ?_) (fun h => ?_)
  · skip
    refine zL_bd (d_179_130 _) (m_178_ok _ _) fun v4 im4 lm4 => ?_
    exact zL_ret (d_179_134 _ _ _)
  refine zL_sw (fun h => ?_) (fun h => ?_)
  · skip
    exact zL_ret (d_179_135 _)
  refine zL_sw (fun h => ?_) (fun h => ?_)
  · skip
    refine zL_ck fun c1 => ?_
    exact zL_ret (d_179_177 _ c1)
  refine zL_sw (fun h => ?_) (fun h => ?_)
  · skip
    refine zL_ck fun c2 => ?_
    exact zL_ret (d_179_177 _ c2)
  refine zL_sw (fun h => ?_) (fun h => ?_)
  · skip
    refine zL_ck fun c3 => ?_
    exact zL_ret (d_179_177 _ c3)
  refine zL_sw (fun h => ?_) (fun h => ?_)
  · skip
    exact zL_ret (d_179_190 _)
  refine zL_sw (fun h => ?_) (fun h => ?_)
  · skip
    exact zL_ret (d_179_195 _)
  refine zL_sw (fun h => ?_) (fun h => ?_)
  · skip
    exact zL_ret (d_179_200 _)
  refine zL_sw (fun h => ?_) (fun h => ?_)
  · skip
    refine zL_if (d_179_205 _) (fun h => ?_) (fun h => ?_)
    · skip
      refine zL_bd (d_179_215 _) (m_88_ok _ _) fun v5 im5 lm5 => ?_
      refine zL_bdp (e := (if 0 ≤ v5 then v5 else (-10000005) : Int32)) (d_179_219 _ _ _) (m_160_ok _ _ _) ?_
      exact zL_ret (d_179_222 _ _ _)
    · skip
      exact zL_ret (d_179_225 _ _)
  refine zL_swd ?_
  exact zL_ret (d_179_228 _ _)
/-! X8_write -/
theorem d_209_0 {B : zeB} {im : Nat → Nat → Int32} {lm : Nat → Nat → Int64} (l1 : Int32) (c0 : zeInb (im 170 20) 160 = true) : zeRun 209 0 [some (.ref 170), some (.int l1)] [] (zk B im lm) = some (none, (zk B (zeU2 (zeU2 im 186 (Int32.toNatClampNeg (im 170 20)) l1) 170 20 ((im 170 20) + 1)) lm)) := ze_ret (ok := (zeInb (im 170 20) 160 && true)) rfl 13 rfl (zeA2 c0 rfl)
def m_209 (l1 : Int32) (im : zI) (lm : zJ) : zR :=
    zCk (zeInb (im 170 20) 160) <|
    some (0, (zeU2 (zeU2 im 186 (Int32.toNatClampNeg (im 170 20)) l1) 170 20 ((im 170 20) + 1)), lm)
theorem m_209_ok {B : zeB} (l1 : Int32) (im : zI) (lm : zJ) : zL B 0 (m_209 l1 im lm) (zeRun 209 0 [some (.ref 170), some (.int l1)] [] (zk B im lm)) := by
  unfold m_209
  refine zL_ck fun c1 => ?_
  exact zL_retv (d_209_0 _ c1)
/-! X8_writeNumber -/
theorem d_210_0 {B : zeB} {im : Nat → Nat → Int32} {lm : Nat → Nat → Int64} (l1 : Int32) (o2 : Option Value) (o3 : Option Value)  : zeRun 210 0 [some (.ref 170), some (.int l1), o2, o3] [] (zk B im lm) = if 0 ≤ l1 then zeRun 210 9 [some (.ref 170), some (.int l1), o2, o3] [] (zk B im lm) else zeRun 210 4 [some (.ref 170), some (.int l1), o2, o3] [] (zk B im lm) := ze_if (ok := true) rfl 2 rfl rfl
theorem d_210_9 {B : zeB} {im : Nat → Nat → Int32} {lm : Nat → Nat → Int64} (l1 : Int32) (o2 : Option Value) (o3 : Option Value)  : zeRun 210 9 [some (.ref 170), some (.int l1), o2, o3] [] (zk B im lm) = zeRun 210 10 [some (.ref 170), some (.int l1), o2, o3] [.int l1] (zk B im lm) := ze_go (ok := true) rfl 1 rfl rfl
theorem d_210_4 {B : zeB} {im : Nat → Nat → Int32} {lm : Nat → Nat → Int64} (l1 : Int32) (o2 : Option Value) (o3 : Option Value)  : zeRun 210 4 [some (.ref 170), some (.int l1), o2, o3] [] (zk B im lm) = zeRun 210 10 [some (.ref 170), some (.int l1), o2, o3] [.int (-l1)] (zk B im lm) := ze_go (ok := true) rfl 3 rfl rfl
theorem d_210_10 {B : zeB} {im : Nat → Nat → Int32} {lm : Nat → Nat → Int64} (l1 : Int32) (o2 : Option Value) (o3 : Option Value) (s0 : Int32)  : zeRun 210 10 [some (.ref 170), some (.int l1), o2, o3] [.int s0] (zk B im lm) = if 0 ≤ l1 then zeRun 210 23 [some (.ref 170), some (.int l1), some (.int s0), some (.int 1)] [] (zk B im lm) else zeRun 210 17 [some (.ref 170), some (.int l1), some (.int s0), some (.int 1)] [] (zk B im lm) := ze_if (ok := true) rfl 5 rfl rfl
theorem d_210_17 {B : zeB} {im : Nat → Nat → Int32} {lm : Nat → Nat → Int64} (o1 : Option Value) (l2 : Int32) (l3 : Int32)  : zeRun 210 17 [some (.ref 170), o1, some (.int l2), some (.int l3)] [] (zk B im lm) = zeBh 210 23 [some (.ref 170), o1, some (.int l2), some (.int l3)] [] (zeRun 209 0 [some (.ref 170), some (.int 45)] [] (zk B im lm)) := ze_call (ok := true) rfl 3 rfl rfl rfl
theorem d_210_23 {B : zeB} {im : Nat → Nat → Int32} {lm : Nat → Nat → Int64} (o1 : Option Value) (l2 : Int32) (l3 : Int32)  : zeRun 210 23 [some (.ref 170), o1, some (.int l2), some (.int l3)] [] (zk B im lm) = if (l2 / 10) < l3 then zeRun 210 39 [some (.ref 170), o1, some (.int l2), some (.int l3)] [] (zk B im lm) else zeRun 210 31 [some (.ref 170), o1, some (.int l2), some (.int l3)] [] (zk B im lm) := ze_if (ok := true) rfl 5 rfl rfl
theorem d_210_31 {B : zeB} {im : Nat → Nat → Int32} {lm : Nat → Nat → Int64} (o1 : Option Value) (l2 : Int32) (l3 : Int32)  : zeRun 210 31 [some (.ref 170), o1, some (.int l2), some (.int l3)] [] (zk B im lm) = zeRun 210 23 [some (.ref 170), o1, some (.int l2), some (.int (l3 * 10))] [] (zk B im lm) := ze_go (ok := true) rfl 5 rfl rfl
theorem d_210_39 {B : zeB} {im : Nat → Nat → Int32} {lm : Nat → Nat → Int64} (o1 : Option Value) (l2 : Int32) (l3 : Int32)  : zeRun 210 39 [some (.ref 170), o1, some (.int l2), some (.int l3)] [] (zk B im lm) = if l3 ≤ 0 then zeRun 210 64 [some (.ref 170), o1, some (.int l2), some (.int l3)] [] (zk B im lm) else zeRun 210 43 [some (.ref 170), o1, some (.int l2), some (.int l3)] [] (zk B im lm) := ze_if (ok := true) rfl 2 rfl rfl
theorem d_210_64 {B : zeB} {im : Nat → Nat → Int32} {lm : Nat → Nat → Int64} (o0 : Option Value) (o1 : Option Value) (o2 : Option Value) (o3 : Option Value)  : zeRun 210 64 [o0, o1, o2, o3] [] (zk B im lm) = some (none, (zk B im lm)) := ze_ret (ok := true) rfl 1 rfl rfl
theorem d_210_43 {B : zeB} {im : Nat → Nat → Int32} {lm : Nat → Nat → Int64} (o1 : Option Value) (l2 : Int32) (l3 : Int32) (c0 : (!(decide (l3 = 0))) = true) : zeRun 210 43 [some (.ref 170), o1, some (.int l2), some (.int l3)] [] (zk B im lm) = zeBh 210 56 [some (.ref 170), o1, some (.int l2), some (.int l3)] [] (zeRun 209 0 [some (.ref 170), some (.int (48 + (zfirem (l2 / l3) 10)))] [] (zk B im lm)) := ze_call (ok := ((!(decide (l3 = 0))) && true)) rfl 9 rfl rfl (zeA2 c0 rfl)
theorem d_210_56 {B : zeB} {im : Nat → Nat → Int32} {lm : Nat → Nat → Int64} (o1 : Option Value) (l2 : Int32) (l3 : Int32)  : zeRun 210 56 [some (.ref 170), o1, some (.int l2), some (.int l3)] [] (zk B im lm) = zeRun 210 39 [some (.ref 170), o1, some (.int l2), some (.int (l3 / 10))] [] (zk B im lm) := ze_go (ok := true) rfl 5 rfl rfl
def F_210_39  : Nat → Int32 → Int32 → zI → zJ → zR
  | 0, _, _, _, _ => none
  | n + 1, l2, l3, im, lm =>
    if l3 ≤ 0 then
      some (0, im, lm)
    else
      zCk ((!(decide (l3 = 0)))) <|
      zBd (m_209 (48 + (zfirem (l2 / l3) 10)) im lm) fun _ im1 lm1 =>
      F_210_39  n l2 (l3 / 10) im1 lm1
theorem F_210_39_ok {B : zeB} : ∀ (n : Nat) (l2 : Int32) (l3 : Int32) (o1 : Option Value) (im : zI) (lm : zJ), zL B 0 (F_210_39  n l2 l3 im lm) (zeRun 210 39 [some (.ref 170), o1, some (.int l2), some (.int l3)] [] (zk B im lm)) := by
  intro n
  induction n with
  | zero => intros; exact zL_none
  | succ n ih =>
    intro l2 l3 o1 im lm
    unfold F_210_39
    refine zL_if (d_210_39 _ _ _) (fun h => ?_) (fun h => ?_)
    · skip
      exact zL_retv (d_210_64 _ _ _ _)
    · skip
      refine zL_ck fun c1 => ?_
      refine zL_bdv (d_210_43 _ _ _ c1) (m_209_ok _ _ _) fun _ im1 lm1 => ?_
      refine zL_eq (d_210_56 _ _ _) ?_
      exact ih _ _ _ _ _
def F_210_23  : Nat → Int32 → Int32 → zI → zJ → zR
  | 0, _, _, _, _ => none
  | n + 1, l2, l3, im, lm =>
    if (l2 / 10) < l3 then
      F_210_39  2000 l2 l3 im lm
    else
      F_210_23  n l2 (l3 * 10) im lm
theorem F_210_23_ok {B : zeB} : ∀ (n : Nat) (l2 : Int32) (l3 : Int32) (o1 : Option Value) (im : zI) (lm : zJ), zL B 0 (F_210_23  n l2 l3 im lm) (zeRun 210 23 [some (.ref 170), o1, some (.int l2), some (.int l3)] [] (zk B im lm)) := by
  intro n
  induction n with
  | zero => intros; exact zL_none
  | succ n ih =>
    intro l2 l3 o1 im lm
    unfold F_210_23
    refine zL_if (d_210_23 _ _ _) (fun h => ?_) (fun h => ?_)
    · skip
      exact F_210_39_ok  _ _ _ _ _ _
    · skip
      refine zL_eq (d_210_31 _ _ _) ?_
      exact ih _ _ _ _ _
def J_210_10  (l1 : Int32) (s0 : Int32) (im : zI) (lm : zJ) : zR :=
    if 0 ≤ l1 then
      F_210_23  2000 s0 1 im lm
    else
      zBd (m_209 45 im lm) fun _ im1 lm1 =>
      F_210_23  2000 s0 1 im1 lm1
theorem J_210_10_ok {B : zeB} (l1 : Int32) (s0 : Int32) (o2 : Option Value) (o3 : Option Value) (im : zI) (lm : zJ) : zL B 0 (J_210_10  l1 s0 im lm) (zeRun 210 10 [some (.ref 170), some (.int l1), o2, o3] [.int s0] (zk B im lm)) := by
  unfold J_210_10
  refine zL_if (d_210_10 _ _ _ _) (fun h => ?_) (fun h => ?_)
  · skip
    exact F_210_23_ok  _ _ _ _ _ _
  · skip
    refine zL_bdv (d_210_17 _ _ _) (m_209_ok _ _ _) fun _ im1 lm1 => ?_
    exact F_210_23_ok  _ _ _ _ _ _
def m_210 (l1 : Int32) (im : zI) (lm : zJ) : zR :=
    J_210_10   l1 (if 0 ≤ l1 then l1 else (-l1)) im lm
theorem m_210_ok {B : zeB} (l1 : Int32) (im : zI) (lm : zJ) : zL B 0 (m_210 l1 im lm) (zeRun 210 0 [some (.ref 170), some (.int l1), none, none] [] (zk B im lm)) := by
  unfold m_210
  refine zL_ifm (d_210_0 _ _ _) (fun h => ?_) (fun h => ?_)
  · repeat rw [if_pos h]
    refine zL_eq (d_210_9 _ _ _) ?_
    exact J_210_10_ok   _ _ _ _ _ _
  · repeat rw [if_neg h]
    refine zL_eq (d_210_4 _ _ _) ?_
    exact J_210_10_ok   _ _ _ _ _ _
/-! X8_messageAt -/
theorem d_211_0 {B : zeB} {im : Nat → Nat → Int32} {lm : Nat → Nat → Int64} (l1 : Int32) (o2 : Option Value) (o3 : Option Value)  : zeRun 211 0 [some (.ref 170), some (.int l1), o2, o3] [] (zk B im lm) = if 0 ≤ l1 then zeRun 211 7 [some (.ref 170), some (.int l1), o2, o3] [] (zk B im lm) else zeRun 211 4 [some (.ref 170), some (.int l1), o2, o3] [] (zk B im lm) := ze_if (ok := true) rfl 2 rfl rfl
theorem d_211_7 {B : zeB} {im : Nat → Nat → Int32} {lm : Nat → Nat → Int64} (l1 : Int32) (o2 : Option Value) (o3 : Option Value)  : zeRun 211 7 [some (.ref 170), some (.int l1), o2, o3] [] (zk B im lm) = zeBh 211 11 [some (.ref 170), some (.int l1), o2, o3] [] (zeRun 47 0 [some (.ref 170), none, none, none, none, none, none] [] (zk B im lm)) := ze_call (ok := true) rfl 2 rfl rfl rfl
theorem d_211_11 {B : zeB} {im : Nat → Nat → Int32} {lm : Nat → Nat → Int64} (l1 : Int32) (o2 : Option Value) (o3 : Option Value)  : zeRun 211 11 [some (.ref 170), some (.int l1), o2, o3] [] (zk B im lm) = zeBh 211 22 [some (.ref 170), some (.int l1), o2, o3] [] (zeRun 209 0 [some (.ref 170), some (.int 112)] [] (zk B (zeU2 im 170 20 0) lm)) := ze_call (ok := true) rfl 6 rfl rfl rfl
theorem d_211_22 {B : zeB} {im : Nat → Nat → Int32} {lm : Nat → Nat → Int64} (l1 : Int32) (o2 : Option Value) (o3 : Option Value)  : zeRun 211 22 [some (.ref 170), some (.int l1), o2, o3] [] (zk B im lm) = zeBh 211 28 [some (.ref 170), some (.int l1), o2, o3] [] (zeRun 209 0 [some (.ref 170), some (.int 104)] [] (zk B im lm)) := ze_call (ok := true) rfl 3 rfl rfl rfl
theorem d_211_28 {B : zeB} {im : Nat → Nat → Int32} {lm : Nat → Nat → Int64} (l1 : Int32) (o2 : Option Value) (o3 : Option Value)  : zeRun 211 28 [some (.ref 170), some (.int l1), o2, o3] [] (zk B im lm) = zeBh 211 34 [some (.ref 170), some (.int l1), o2, o3] [] (zeRun 209 0 [some (.ref 170), some (.int 97)] [] (zk B im lm)) := ze_call (ok := true) rfl 3 rfl rfl rfl
theorem d_211_34 {B : zeB} {im : Nat → Nat → Int32} {lm : Nat → Nat → Int64} (l1 : Int32) (o2 : Option Value) (o3 : Option Value)  : zeRun 211 34 [some (.ref 170), some (.int l1), o2, o3] [] (zk B im lm) = zeBh 211 40 [some (.ref 170), some (.int l1), o2, o3] [] (zeRun 209 0 [some (.ref 170), some (.int 115)] [] (zk B im lm)) := ze_call (ok := true) rfl 3 rfl rfl rfl
theorem d_211_40 {B : zeB} {im : Nat → Nat → Int32} {lm : Nat → Nat → Int64} (l1 : Int32) (o2 : Option Value) (o3 : Option Value)  : zeRun 211 40 [some (.ref 170), some (.int l1), o2, o3] [] (zk B im lm) = zeBh 211 46 [some (.ref 170), some (.int l1), o2, o3] [] (zeRun 209 0 [some (.ref 170), some (.int 101)] [] (zk B im lm)) := ze_call (ok := true) rfl 3 rfl rfl rfl
theorem d_211_46 {B : zeB} {im : Nat → Nat → Int32} {lm : Nat → Nat → Int64} (l1 : Int32) (o2 : Option Value) (o3 : Option Value)  : zeRun 211 46 [some (.ref 170), some (.int l1), o2, o3] [] (zk B im lm) = zeBh 211 52 [some (.ref 170), some (.int l1), o2, o3] [] (zeRun 209 0 [some (.ref 170), some (.int 32)] [] (zk B im lm)) := ze_call (ok := true) rfl 3 rfl rfl rfl
theorem d_211_52 {B : zeB} {im : Nat → Nat → Int32} {lm : Nat → Nat → Int64} (l1 : Int32) (o2 : Option Value) (o3 : Option Value)  : zeRun 211 52 [some (.ref 170), some (.int l1), o2, o3] [] (zk B im lm) = zeBh 211 62 [some (.ref 170), some (.int l1), o2, o3] [] (zeRun 210 0 [some (.ref 170), some (.int (im 171 0)), none, none] [] (zk B im lm)) := ze_call (ok := true) rfl 6 rfl rfl rfl
theorem d_211_62 {B : zeB} {im : Nat → Nat → Int32} {lm : Nat → Nat → Int64} (l1 : Int32) (o2 : Option Value) (o3 : Option Value)  : zeRun 211 62 [some (.ref 170), some (.int l1), o2, o3] [] (zk B im lm) = zeRun 211 64 [some (.ref 170), some (.int l1), some (.int 0), o3] [] (zk B im lm) := ze_go (ok := true) rfl 2 rfl rfl
theorem d_211_4 {B : zeB} {im : Nat → Nat → Int32} {lm : Nat → Nat → Int64} (o0 : Option Value) (o1 : Option Value) (o2 : Option Value) (o3 : Option Value)  : zeRun 211 4 [o0, o1, o2, o3] [] (zk B im lm) = some (some (.int (-10000002)), (zk B im lm)) := ze_ret (ok := true) rfl 2 rfl rfl
theorem d_211_64 {B : zeB} {im : Nat → Nat → Int32} {lm : Nat → Nat → Int64} (l1 : Int32) (l2 : Int32) (o3 : Option Value)  : zeRun 211 64 [some (.ref 170), some (.int l1), some (.int l2), o3] [] (zk B im lm) = if (im 171 1) ≤ l2 then zeRun 211 125 [some (.ref 170), some (.int l1), some (.int l2), o3] [] (zk B im lm) else zeRun 211 74 [some (.ref 170), some (.int l1), some (.int l2), o3] [] (zk B im lm) := ze_if (ok := true) rfl 6 rfl rfl
theorem d_211_125 {B : zeB} {im : Nat → Nat → Int32} {lm : Nat → Nat → Int64} (l1 : Int32) (o2 : Option Value) (o3 : Option Value)  : zeRun 211 125 [some (.ref 170), some (.int l1), o2, o3] [] (zk B im lm) = if (im 170 20) ≤ l1 then zeRun 211 142 [some (.ref 170), some (.int l1), o2, o3] [] (zk B im lm) else zeRun 211 133 [some (.ref 170), some (.int l1), o2, o3] [] (zk B im lm) := ze_if (ok := true) rfl 4 rfl rfl
theorem d_211_142 {B : zeB} {im : Nat → Nat → Int32} {lm : Nat → Nat → Int64} (o0 : Option Value) (o1 : Option Value) (o2 : Option Value) (o3 : Option Value)  : zeRun 211 142 [o0, o1, o2, o3] [] (zk B im lm) = some (some (.int (-10000005)), (zk B im lm)) := ze_ret (ok := true) rfl 2 rfl rfl
theorem d_211_133 {B : zeB} {im : Nat → Nat → Int32} {lm : Nat → Nat → Int64} (l1 : Int32) (o2 : Option Value) (o3 : Option Value) (c0 : zeInb l1 160 = true) : zeRun 211 133 [some (.ref 170), some (.int l1), o2, o3] [] (zk B im lm) = some (some (.int (im 186 (Int32.toNatClampNeg l1))), (zk B im lm)) := ze_ret (ok := (zeInb l1 160 && true)) rfl 6 rfl (zeA2 c0 rfl)
theorem d_211_74 {B : zeB} {im : Nat → Nat → Int32} {lm : Nat → Nat → Int64} (l1 : Int32) (l2 : Int32) (o3 : Option Value)  : zeRun 211 74 [some (.ref 170), some (.int l1), some (.int l2), o3] [] (zk B im lm) = zeBh 211 79 [some (.ref 170), some (.int l1), some (.int l2), o3] [] (zeRun 164 0 [some (.ref 170), some (.int l2), none, none] [] (zk B im lm)) := ze_call (ok := true) rfl 3 rfl rfl rfl
theorem d_211_79 {B : zeB} {im : Nat → Nat → Int32} {lm : Nat → Nat → Int64} (l1 : Int32) (l2 : Int32) (o3 : Option Value) (s0 : Int32)  : zeRun 211 79 [some (.ref 170), some (.int l1), some (.int l2), o3] [.int s0] (zk B im lm) = zeBh 211 86 [some (.ref 170), some (.int l1), some (.int l2), some (.int s0)] [] (zeRun 209 0 [some (.ref 170), some (.int 59)] [] (zk B im lm)) := ze_call (ok := true) rfl 4 rfl rfl rfl
theorem d_211_86 {B : zeB} {im : Nat → Nat → Int32} {lm : Nat → Nat → Int64} (l1 : Int32) (l2 : Int32) (l3 : Int32)  : zeRun 211 86 [some (.ref 170), some (.int l1), some (.int l2), some (.int l3)] [] (zk B im lm) = zeBh 211 92 [some (.ref 170), some (.int l1), some (.int l2), some (.int l3)] [] (zeRun 209 0 [some (.ref 170), some (.int 32)] [] (zk B im lm)) := ze_call (ok := true) rfl 3 rfl rfl rfl
theorem d_211_92 {B : zeB} {im : Nat → Nat → Int32} {lm : Nat → Nat → Int64} (l1 : Int32) (l2 : Int32) (l3 : Int32)  : zeRun 211 92 [some (.ref 170), some (.int l1), some (.int l2), some (.int l3)] [] (zk B im lm) = zeBh 211 98 [some (.ref 170), some (.int l1), some (.int l2), some (.int l3)] [] (zeRun 209 0 [some (.ref 170), some (.int 112)] [] (zk B im lm)) := ze_call (ok := true) rfl 3 rfl rfl rfl
theorem d_211_98 {B : zeB} {im : Nat → Nat → Int32} {lm : Nat → Nat → Int64} (l1 : Int32) (l2 : Int32) (l3 : Int32)  : zeRun 211 98 [some (.ref 170), some (.int l1), some (.int l2), some (.int l3)] [] (zk B im lm) = zeBh 211 103 [some (.ref 170), some (.int l1), some (.int l2), some (.int l3)] [] (zeRun 210 0 [some (.ref 170), some (.int l3), none, none] [] (zk B im lm)) := ze_call (ok := true) rfl 3 rfl rfl rfl
theorem d_211_103 {B : zeB} {im : Nat → Nat → Int32} {lm : Nat → Nat → Int64} (l1 : Int32) (l2 : Int32) (l3 : Int32)  : zeRun 211 103 [some (.ref 170), some (.int l1), some (.int l2), some (.int l3)] [] (zk B im lm) = zeBh 211 109 [some (.ref 170), some (.int l1), some (.int l2), some (.int l3)] [] (zeRun 209 0 [some (.ref 170), some (.int 32)] [] (zk B im lm)) := ze_call (ok := true) rfl 3 rfl rfl rfl
theorem d_211_109 {B : zeB} {im : Nat → Nat → Int32} {lm : Nat → Nat → Int64} (l1 : Int32) (l2 : Int32) (l3 : Int32) (c0 : zeInb l3 6 = true) : zeRun 211 109 [some (.ref 170), some (.int l1), some (.int l2), some (.int l3)] [] (zk B im lm) = zeBh 211 119 [some (.ref 170), some (.int l1), some (.int l2), some (.int l3)] [] (zeRun 210 0 [some (.ref 170), some (.int (im 175 (Int32.toNatClampNeg l3))), none, none] [] (zk B im lm)) := ze_call (ok := (zeInb l3 6 && true)) rfl 6 rfl rfl (zeA2 c0 rfl)
theorem d_211_119 {B : zeB} {im : Nat → Nat → Int32} {lm : Nat → Nat → Int64} (l1 : Int32) (l2 : Int32) (o3 : Option Value)  : zeRun 211 119 [some (.ref 170), some (.int l1), some (.int l2), o3] [] (zk B im lm) = zeRun 211 64 [some (.ref 170), some (.int l1), some (.int (l2 + 1)), o3] [] (zk B im lm) := ze_go (ok := true) rfl 2 rfl rfl
def F_211_64  : Nat → Int32 → Int32 → zI → zJ → zR
  | 0, _, _, _, _ => none
  | n + 1, l1, l2, im, lm =>
    if (im 171 1) ≤ l2 then
      zCk (if (im 170 20) ≤ l1 then true else zeInb l1 160) <|
      some (if (im 170 20) ≤ l1 then (-10000005) else (im 186 (Int32.toNatClampNeg l1)), im, lm)
    else
      zBd (m_164 l2 im lm) fun v1 im1 lm1 =>
      zBd (m_209 59 im1 lm1) fun _ im2 lm2 =>
      zBd (m_209 32 im2 lm2) fun _ im3 lm3 =>
      zBd (m_209 112 im3 lm3) fun _ im4 lm4 =>
      zBd (m_210 v1 im4 lm4) fun _ im5 lm5 =>
      zBd (m_209 32 im5 lm5) fun _ im6 lm6 =>
      zCk (zeInb v1 6) <|
      zBd (m_210 (im6 175 (Int32.toNatClampNeg v1)) im6 lm6) fun _ im7 lm7 =>
      F_211_64  n l1 (l2 + 1) im7 lm7
theorem F_211_64_ok {B : zeB} : ∀ (n : Nat) (l1 : Int32) (l2 : Int32) (o3 : Option Value) (im : zI) (lm : zJ), zL B 1 (F_211_64  n l1 l2 im lm) (zeRun 211 64 [some (.ref 170), some (.int l1), some (.int l2), o3] [] (zk B im lm)) := by
  intro n
  induction n with
  | zero => intros; exact zL_none
  | succ n ih =>
    intro l1 l2 o3 im lm
    unfold F_211_64
    refine zL_if (d_211_64 _ _ _) (fun h => ?_) (fun h => ?_)
    · skip
      refine zL_ifm (d_211_125 _ _ _) (fun h => ?_) (fun h => ?_)
      · repeat rw [if_pos h]
        refine zL_ckt ?_
        exact zL_ret (d_211_142 _ _ _ _)
      · repeat rw [if_neg h]
        refine zL_ck fun c1 => ?_
        exact zL_ret (d_211_133 _ _ _ c1)
    · skip
      refine zL_bd (d_211_74 _ _ _) (m_164_ok _ _ _) fun v1 im1 lm1 => ?_
      refine zL_bdv (d_211_79 _ _ _ _) (m_209_ok _ _ _) fun _ im2 lm2 => ?_
      refine zL_bdv (d_211_86 _ _ _) (m_209_ok _ _ _) fun _ im3 lm3 => ?_
      refine zL_bdv (d_211_92 _ _ _) (m_209_ok _ _ _) fun _ im4 lm4 => ?_
      refine zL_bdv (d_211_98 _ _ _) (m_210_ok _ _ _) fun _ im5 lm5 => ?_
      refine zL_bdv (d_211_103 _ _ _) (m_209_ok _ _ _) fun _ im6 lm6 => ?_
      refine zL_ck fun c2 => ?_
      refine zL_bdv (d_211_109 _ _ _ c2) (m_210_ok _ _ _) fun _ im7 lm7 => ?_
      refine zL_eq (d_211_119 _ _ _) ?_
      exact ih _ _ _ _ _
def m_211 (l1 : Int32) (im : zI) (lm : zJ) : zR :=
    if 0 ≤ l1 then
      zBd (m_47  im lm) fun _ im1 lm1 =>
      zBd (m_209 112 (zeU2 im1 170 20 0) lm1) fun _ im2 lm2 =>
      zBd (m_209 104 im2 lm2) fun _ im3 lm3 =>
      zBd (m_209 97 im3 lm3) fun _ im4 lm4 =>
      zBd (m_209 115 im4 lm4) fun _ im5 lm5 =>
      zBd (m_209 101 im5 lm5) fun _ im6 lm6 =>
      zBd (m_209 32 im6 lm6) fun _ im7 lm7 =>
      zBd (m_210 (im7 171 0) im7 lm7) fun _ im8 lm8 =>
      F_211_64  2000 l1 0 im8 lm8
    else
      some ((-10000002), im, lm)
theorem m_211_ok {B : zeB} (l1 : Int32) (im : zI) (lm : zJ) : zL B 1 (m_211 l1 im lm) (zeRun 211 0 [some (.ref 170), some (.int l1), none, none] [] (zk B im lm)) := by
  unfold m_211
  refine zL_if (d_211_0 _ _ _) (fun h => ?_) (fun h => ?_)
  · skip
    refine zL_bdv (d_211_7 _ _ _) (m_47_ok _ _) fun _ im1 lm1 => ?_
    refine zL_bdv (d_211_11 _ _ _) (m_209_ok _ _ _) fun _ im2 lm2 => ?_
    refine zL_bdv (d_211_22 _ _ _) (m_209_ok _ _ _) fun _ im3 lm3 => ?_
    refine zL_bdv (d_211_28 _ _ _) (m_209_ok _ _ _) fun _ im4 lm4 => ?_
    refine zL_bdv (d_211_34 _ _ _) (m_209_ok _ _ _) fun _ im5 lm5 => ?_
    refine zL_bdv (d_211_40 _ _ _) (m_209_ok _ _ _) fun _ im6 lm6 => ?_
    refine zL_bdv (d_211_46 _ _ _) (m_209_ok _ _ _) fun _ im7 lm7 => ?_
    refine zL_bdv (d_211_52 _ _ _) (m_210_ok _ _ _) fun _ im8 lm8 => ?_
    refine zL_eq (d_211_62 _ _ _) ?_
    exact F_211_64_ok  _ _ _ _ _ _
  · skip
    exact zL_ret (d_211_4 _ _ _ _)
