/-! pure: X8_replay, X8_checkPick, X8_value -/
/-! X8_replay -/
theorem d_47_0 {B : zeB} {im : Nat → Nat → Int32} {lm : Nat → Nat → Int64} (o1 : Option Value) (o2 : Option Value) (o3 : Option Value) (o4 : Option Value) (o5 : Option Value) (o6 : Option Value)  : zeRun 47 0 [some (.ref 170), o1, o2, o3, o4, o5, o6] [] (zk B im lm) = if (im 171 1) = 0 then zeRun 47 10 [some (.ref 170), o1, o2, o3, o4, o5, o6] [.ref 170] (zk B im lm) else zeRun 47 15 [some (.ref 170), o1, o2, o3, o4, o5, o6] [.ref 170] (zk B im lm) := ze_if (ok := true) rfl 6 rfl rfl
theorem d_47_10 {B : zeB} {im : Nat → Nat → Int32} {lm : Nat → Nat → Int64} (o1 : Option Value) (o2 : Option Value) (o3 : Option Value) (o4 : Option Value) (o5 : Option Value) (o6 : Option Value)  : zeRun 47 10 [some (.ref 170), o1, o2, o3, o4, o5, o6] [.ref 170] (zk B im lm) = zeRun 47 16 [some (.ref 170), o1, o2, o3, o4, o5, o6] [.int (-10000005), .ref 170] (zk B im lm) := ze_go (ok := true) rfl 2 rfl rfl
theorem d_47_15 {B : zeB} {im : Nat → Nat → Int32} {lm : Nat → Nat → Int64} (o1 : Option Value) (o2 : Option Value) (o3 : Option Value) (o4 : Option Value) (o5 : Option Value) (o6 : Option Value)  : zeRun 47 15 [some (.ref 170), o1, o2, o3, o4, o5, o6] [.ref 170] (zk B im lm) = zeRun 47 16 [some (.ref 170), o1, o2, o3, o4, o5, o6] [.int 0, .ref 170] (zk B im lm) := ze_go (ok := true) rfl 1 rfl rfl
theorem d_47_16 {B : zeB} {im : Nat → Nat → Int32} {lm : Nat → Nat → Int64} (o1 : Option Value) (o2 : Option Value) (o3 : Option Value) (o4 : Option Value) (o5 : Option Value) (o6 : Option Value) (s1 : Int32)  : zeRun 47 16 [some (.ref 170), o1, o2, o3, o4, o5, o6] [.int s1, .ref 170] (zk B im lm) = zeRun 47 21 [some (.ref 170), some (.int 0), o2, o3, o4, o5, o6] [] (zk B (zeU2 im 170 13 s1) lm) := ze_go (ok := true) rfl 3 rfl rfl
theorem d_47_21 {B : zeB} {im : Nat → Nat → Int32} {lm : Nat → Nat → Int64} (l1 : Int32) (o2 : Option Value) (o3 : Option Value) (o4 : Option Value) (o5 : Option Value) (o6 : Option Value)  : zeRun 47 21 [some (.ref 170), some (.int l1), o2, o3, o4, o5, o6] [] (zk B im lm) = if 6 ≤ l1 then zeRun 47 61 [some (.ref 170), some (.int l1), o2, o3, o4, o5, o6] [] (zk B im lm) else zeRun 47 27 [some (.ref 170), some (.int l1), o2, o3, o4, o5, o6] [] (zk B im lm) := ze_if (ok := true) rfl 3 rfl rfl
theorem d_47_61 {B : zeB} {im : Nat → Nat → Int32} {lm : Nat → Nat → Int64} (o1 : Option Value) (o2 : Option Value) (o3 : Option Value) (o4 : Option Value) (o5 : Option Value) (o6 : Option Value)  : zeRun 47 61 [some (.ref 170), o1, o2, o3, o4, o5, o6] [] (zk B im lm) = zeRun 47 63 [some (.ref 170), some (.int 0), o2, o3, o4, o5, o6] [] (zk B im lm) := ze_go (ok := true) rfl 2 rfl rfl
theorem d_47_27 {B : zeB} {im : Nat → Nat → Int32} {lm : Nat → Nat → Int64} (l1 : Int32) (o2 : Option Value) (o3 : Option Value) (o4 : Option Value) (o5 : Option Value) (o6 : Option Value) (c0 : zeInb l1 6 = true) (c1 : zeInb l1 6 = true) (c2 : zeInb l1 6 = true) (c3 : zeInb l1 6 = true) : zeRun 47 27 [some (.ref 170), some (.int l1), o2, o3, o4, o5, o6] [] (zk B im lm) = zeRun 47 21 [some (.ref 170), some (.int (l1 + 1)), o2, o3, o4, o5, o6] [] (zk B (zeU2 (zeU2 (zeU2 (zeU2 im 175 (Int32.toNatClampNeg l1) 0) 179 (Int32.toNatClampNeg l1) 0) 180 (Int32.toNatClampNeg l1) 0) 181 (Int32.toNatClampNeg l1) 0) lm) := ze_go (ok := (zeInb l1 6 && (zeInb l1 6 && (zeInb l1 6 && (zeInb l1 6 && true))))) rfl 22 rfl (zeA2 c3 (zeA2 c2 (zeA2 c1 (zeA2 c0 rfl))))
theorem d_47_63 {B : zeB} {im : Nat → Nat → Int32} {lm : Nat → Nat → Int64} (l1 : Int32) (o2 : Option Value) (o3 : Option Value) (o4 : Option Value) (o5 : Option Value) (o6 : Option Value)  : zeRun 47 63 [some (.ref 170), some (.int l1), o2, o3, o4, o5, o6] [] (zk B im lm) = if (im 171 5) ≤ l1 then zeRun 47 399 [some (.ref 170), some (.int l1), o2, o3, o4, o5, o6] [] (zk B im lm) else zeRun 47 73 [some (.ref 170), some (.int l1), o2, o3, o4, o5, o6] [] (zk B im lm) := ze_if (ok := true) rfl 6 rfl rfl
theorem d_47_399 {B : zeB} {im : Nat → Nat → Int32} {lm : Nat → Nat → Int64} (o0 : Option Value) (o1 : Option Value) (o2 : Option Value) (o3 : Option Value) (o4 : Option Value) (o5 : Option Value) (o6 : Option Value)  : zeRun 47 399 [o0, o1, o2, o3, o4, o5, o6] [] (zk B im lm) = some (none, (zk B im lm)) := ze_ret (ok := true) rfl 1 rfl rfl
theorem d_47_73 {B : zeB} {im : Nat → Nat → Int32} {lm : Nat → Nat → Int64} (l1 : Int32) (o2 : Option Value) (o3 : Option Value) (o4 : Option Value) (o5 : Option Value) (o6 : Option Value)  : zeRun 47 73 [some (.ref 170), some (.int l1), o2, o3, o4, o5, o6] [] (zk B im lm) = zeBh 47 81 [some (.ref 170), some (.int l1), o2, o3, o4, o5, o6] [.ref 171] (zeRun 45 0 [some (.int l1)] [] (zk B im lm)) := ze_call (ok := true) rfl 4 rfl rfl rfl
theorem d_47_81 {B : zeB} {im : Nat → Nat → Int32} {lm : Nat → Nat → Int64} (l1 : Int32) (o2 : Option Value) (o3 : Option Value) (o4 : Option Value) (o5 : Option Value) (o6 : Option Value) (s1 : Int32) (c0 : zeInb s1 360 = true) : zeRun 47 81 [some (.ref 170), some (.int l1), o2, o3, o4, o5, o6] [.int s1, .ref 171] (zk B im lm) = zeBh 47 91 [some (.ref 170), some (.int l1), some (.int (im 171 (Int32.toNatClampNeg s1))), o3, o4, o5, o6] [.ref 171] (zeRun 45 0 [some (.int l1)] [] (zk B im lm)) := ze_call (ok := (zeInb s1 360 && true)) rfl 6 rfl rfl (zeA2 c0 rfl)
theorem d_47_91 {B : zeB} {im : Nat → Nat → Int32} {lm : Nat → Nat → Int64} (l1 : Int32) (l2 : Int32) (o3 : Option Value) (o4 : Option Value) (o5 : Option Value) (o6 : Option Value) (s1 : Int32) (c0 : zeInb (s1 + 1) 360 = true) : zeRun 47 91 [some (.ref 170), some (.int l1), some (.int l2), o3, o4, o5, o6] [.int s1, .ref 171] (zk B im lm) = zeBh 47 103 [some (.ref 170), some (.int l1), some (.int l2), some (.int (im 171 (Int32.toNatClampNeg (s1 + 1)))), o4, o5, o6] [.ref 171] (zeRun 45 0 [some (.int l1)] [] (zk B im lm)) := ze_call (ok := (zeInb (s1 + 1) 360 && true)) rfl 8 rfl rfl (zeA2 c0 rfl)
theorem d_47_103 {B : zeB} {im : Nat → Nat → Int32} {lm : Nat → Nat → Int64} (l1 : Int32) (l2 : Int32) (l3 : Int32) (o4 : Option Value) (o5 : Option Value) (o6 : Option Value) (s1 : Int32) (c0 : zeInb (s1 + 3) 360 = true) : zeRun 47 103 [some (.ref 170), some (.int l1), some (.int l2), some (.int l3), o4, o5, o6] [.int s1, .ref 171] (zk B im lm) = zeBh 47 116 [some (.ref 170), some (.int l1), some (.int l2), some (.int l3), some (.int (im 171 (Int32.toNatClampNeg (s1 + 3)))), o5, o6] [.ref 171] (zeRun 45 0 [some (.int l1)] [] (zk B im lm)) := ze_call (ok := (zeInb (s1 + 3) 360 && true)) rfl 8 rfl rfl (zeA2 c0 rfl)
theorem d_47_116 {B : zeB} {im : Nat → Nat → Int32} {lm : Nat → Nat → Int64} (l1 : Int32) (l2 : Int32) (l3 : Int32) (l4 : Int32) (o5 : Option Value) (o6 : Option Value) (s1 : Int32) (c0 : zeInb (s1 + 4) 360 = true) : zeRun 47 116 [some (.ref 170), some (.int l1), some (.int l2), some (.int l3), some (.int l4), o5, o6] [.int s1, .ref 171] (zk B im lm) = if l3 = 2 then zeRun 47 126 [some (.ref 170), some (.int l1), some (.int l2), some (.int l3), some (.int l4), some (.int (im 171 (Int32.toNatClampNeg (s1 + 4)))), o6] [] (zk B im lm) else zeRun 47 153 [some (.ref 170), some (.int l1), some (.int l2), some (.int l3), some (.int l4), some (.int (im 171 (Int32.toNatClampNeg (s1 + 4)))), o6] [] (zk B im lm) := ze_if (ok := (zeInb (s1 + 4) 360 && true)) rfl 7 rfl (zeA2 c0 rfl)
theorem d_47_126 {B : zeB} {im : Nat → Nat → Int32} {lm : Nat → Nat → Int64} (l1 : Int32) (l2 : Int32) (l3 : Int32) (l4 : Int32) (l5 : Int32) (o6 : Option Value) (c0 : zeInb l2 6 = true) : zeRun 47 126 [some (.ref 170), some (.int l1), some (.int l2), some (.int l3), some (.int l4), some (.int l5), o6] [] (zk B im lm) = if (im 175 (Int32.toNatClampNeg l2)) ≤ 500 then zeRun 47 147 [some (.ref 170), some (.int l1), some (.int l2), some (.int l3), some (.int l4), some (.int l5), o6] [] (zk B im lm) else zeRun 47 138 [some (.ref 170), some (.int l1), some (.int l2), some (.int l3), some (.int l4), some (.int l5), o6] [] (zk B im lm) := ze_if (ok := (zeInb l2 6 && true)) rfl 6 rfl (zeA2 c0 rfl)
theorem d_47_147 {B : zeB} {im : Nat → Nat → Int32} {lm : Nat → Nat → Int64} (l1 : Int32) (l2 : Int32) (l3 : Int32) (l4 : Int32) (l5 : Int32) (o6 : Option Value)  : zeRun 47 147 [some (.ref 170), some (.int l1), some (.int l2), some (.int l3), some (.int l4), some (.int l5), o6] [] (zk B im lm) = zeRun 47 182 [some (.ref 170), some (.int l1), some (.int l2), some (.int l3), some (.int l4), some (.int l5), o6] [.int 500] (zk B im lm) := ze_go (ok := true) rfl 2 rfl rfl
theorem d_47_138 {B : zeB} {im : Nat → Nat → Int32} {lm : Nat → Nat → Int64} (l1 : Int32) (l2 : Int32) (l3 : Int32) (l4 : Int32) (l5 : Int32) (o6 : Option Value) (c0 : zeInb l2 6 = true) : zeRun 47 138 [some (.ref 170), some (.int l1), some (.int l2), some (.int l3), some (.int l4), some (.int l5), o6] [] (zk B im lm) = zeRun 47 182 [some (.ref 170), some (.int l1), some (.int l2), some (.int l3), some (.int l4), some (.int l5), o6] [.int (im 175 (Int32.toNatClampNeg l2))] (zk B im lm) := ze_go (ok := (zeInb l2 6 && true)) rfl 5 rfl (zeA2 c0 rfl)
theorem d_47_153 {B : zeB} {im : Nat → Nat → Int32} {lm : Nat → Nat → Int64} (l1 : Int32) (l2 : Int32) (l3 : Int32) (l4 : Int32) (l5 : Int32) (o6 : Option Value)  : zeRun 47 153 [some (.ref 170), some (.int l1), some (.int l2), some (.int l3), some (.int l4), some (.int l5), o6] [] (zk B im lm) = if l3 = 3 then zeRun 47 158 [some (.ref 170), some (.int l1), some (.int l2), some (.int l3), some (.int l4), some (.int l5), o6] [] (zk B im lm) else zeRun 47 180 [some (.ref 170), some (.int l1), some (.int l2), some (.int l3), some (.int l4), some (.int l5), o6] [] (zk B im lm) := ze_if (ok := true) rfl 3 rfl rfl
theorem d_47_158 {B : zeB} {im : Nat → Nat → Int32} {lm : Nat → Nat → Int64} (l1 : Int32) (l2 : Int32) (l3 : Int32) (l4 : Int32) (l5 : Int32) (o6 : Option Value) (c0 : zeInb l2 6 = true) : zeRun 47 158 [some (.ref 170), some (.int l1), some (.int l2), some (.int l3), some (.int l4), some (.int l5), o6] [] (zk B im lm) = if (im 175 (Int32.toNatClampNeg l2)) ≤ 0 then zeRun 47 176 [some (.ref 170), some (.int l1), some (.int l2), some (.int l3), some (.int l4), some (.int l5), o6] [] (zk B im lm) else zeRun 47 167 [some (.ref 170), some (.int l1), some (.int l2), some (.int l3), some (.int l4), some (.int l5), o6] [] (zk B im lm) := ze_if (ok := (zeInb l2 6 && true)) rfl 5 rfl (zeA2 c0 rfl)
theorem d_47_176 {B : zeB} {im : Nat → Nat → Int32} {lm : Nat → Nat → Int64} (l1 : Int32) (l2 : Int32) (l3 : Int32) (l4 : Int32) (l5 : Int32) (o6 : Option Value)  : zeRun 47 176 [some (.ref 170), some (.int l1), some (.int l2), some (.int l3), some (.int l4), some (.int l5), o6] [] (zk B im lm) = zeRun 47 182 [some (.ref 170), some (.int l1), some (.int l2), some (.int l3), some (.int l4), some (.int l5), o6] [.int 0] (zk B im lm) := ze_go (ok := true) rfl 2 rfl rfl
theorem d_47_167 {B : zeB} {im : Nat → Nat → Int32} {lm : Nat → Nat → Int64} (l1 : Int32) (l2 : Int32) (l3 : Int32) (l4 : Int32) (l5 : Int32) (o6 : Option Value) (c0 : zeInb l2 6 = true) : zeRun 47 167 [some (.ref 170), some (.int l1), some (.int l2), some (.int l3), some (.int l4), some (.int l5), o6] [] (zk B im lm) = zeRun 47 182 [some (.ref 170), some (.int l1), some (.int l2), some (.int l3), some (.int l4), some (.int l5), o6] [.int (im 175 (Int32.toNatClampNeg l2))] (zk B im lm) := ze_go (ok := (zeInb l2 6 && true)) rfl 5 rfl (zeA2 c0 rfl)
theorem d_47_180 {B : zeB} {im : Nat → Nat → Int32} {lm : Nat → Nat → Int64} (l1 : Int32) (l2 : Int32) (l3 : Int32) (l4 : Int32) (l5 : Int32) (o6 : Option Value)  : zeRun 47 180 [some (.ref 170), some (.int l1), some (.int l2), some (.int l3), some (.int l4), some (.int l5), o6] [] (zk B im lm) = zeRun 47 182 [some (.ref 170), some (.int l1), some (.int l2), some (.int l3), some (.int l4), some (.int l5), o6] [.int l4] (zk B im lm) := ze_go (ok := true) rfl 1 rfl rfl
theorem d_47_182 {B : zeB} {im : Nat → Nat → Int32} {lm : Nat → Nat → Int64} (l1 : Int32) (l2 : Int32) (l3 : Int32) (l4 : Int32) (l5 : Int32) (o6 : Option Value) (s0 : Int32)  : zeRun 47 182 [some (.ref 170), some (.int l1), some (.int l2), some (.int l3), some (.int l4), some (.int l5), o6] [.int s0] (zk B im lm) = zeBh 47 194 [some (.ref 170), some (.int l1), some (.int l2), some (.int l3), some (.int l4), some (.int l5), some (.int s0)] [.int l1, .ref 177] (zeRun 46 0 [some (.ref 170), some (.int l1), none, none] [] (zk B im lm)) := ze_call (ok := true) rfl 7 rfl rfl rfl
theorem d_47_194 {B : zeB} {im : Nat → Nat → Int32} {lm : Nat → Nat → Int64} (l1 : Int32) (l2 : Int32) (l3 : Int32) (l4 : Int32) (l5 : Int32) (l6 : Int32) (s1 : Int32) (s2 : Int32) (c0 : zeInb s1 60 = true) (c1 : zeInb l1 60 = true) : zeRun 47 194 [some (.ref 170), some (.int l1), some (.int l2), some (.int l3), some (.int l4), some (.int l5), some (.int l6)] [.int s2, .int s1, .ref 177] (zk B im lm) = if ((zeU2 im 177 (Int32.toNatClampNeg s1) (vp_nar .boolean s2)) 177 (Int32.toNatClampNeg l1)) = 0 then zeRun 47 213 [some (.ref 170), some (.int l1), some (.int l2), some (.int l3), some (.int l4), some (.int l5), some (.int l6)] [.int l1, .ref 176] (zk B (zeU2 im 177 (Int32.toNatClampNeg s1) (vp_nar .boolean s2)) lm) else zeRun 47 209 [some (.ref 170), some (.int l1), some (.int l2), some (.int l3), some (.int l4), some (.int l5), some (.int l6)] [.int l1, .ref 176] (zk B (zeU2 im 177 (Int32.toNatClampNeg s1) (vp_nar .boolean s2)) lm) := ze_if (ok := (zeInb l1 60 && (zeInb s1 60 && true))) rfl 9 rfl (zeA2 c1 (zeA2 c0 rfl))
theorem d_47_213 {B : zeB} {im : Nat → Nat → Int32} {lm : Nat → Nat → Int64} (l1 : Int32) (l2 : Int32) (l3 : Int32) (l4 : Int32) (l5 : Int32) (l6 : Int32) (s1 : Int32)  : zeRun 47 213 [some (.ref 170), some (.int l1), some (.int l2), some (.int l3), some (.int l4), some (.int l5), some (.int l6)] [.int s1, .ref 176] (zk B im lm) = if l6 ≤ l4 then zeRun 47 225 [some (.ref 170), some (.int l1), some (.int l2), some (.int l3), some (.int l4), some (.int l5), some (.int l6)] [.int s1, .ref 176] (zk B im lm) else zeRun 47 220 [some (.ref 170), some (.int l1), some (.int l2), some (.int l3), some (.int l4), some (.int l5), some (.int l6)] [.int s1, .ref 176] (zk B im lm) := ze_if (ok := true) rfl 3 rfl rfl
theorem d_47_225 {B : zeB} {im : Nat → Nat → Int32} {lm : Nat → Nat → Int64} (l1 : Int32) (l2 : Int32) (l3 : Int32) (o4 : Option Value) (l5 : Int32) (l6 : Int32) (s1 : Int32)  : zeRun 47 225 [some (.ref 170), some (.int l1), some (.int l2), some (.int l3), o4, some (.int l5), some (.int l6)] [.int s1, .ref 176] (zk B im lm) = zeRun 47 227 [some (.ref 170), some (.int l1), some (.int l2), some (.int l3), o4, some (.int l5), some (.int l6)] [.int l6, .int s1, .ref 176] (zk B im lm) := ze_go (ok := true) rfl 1 rfl rfl
theorem d_47_220 {B : zeB} {im : Nat → Nat → Int32} {lm : Nat → Nat → Int64} (l1 : Int32) (l2 : Int32) (l3 : Int32) (l4 : Int32) (l5 : Int32) (o6 : Option Value) (s1 : Int32)  : zeRun 47 220 [some (.ref 170), some (.int l1), some (.int l2), some (.int l3), some (.int l4), some (.int l5), o6] [.int s1, .ref 176] (zk B im lm) = zeRun 47 227 [some (.ref 170), some (.int l1), some (.int l2), some (.int l3), some (.int l4), some (.int l5), o6] [.int l4, .int s1, .ref 176] (zk B im lm) := ze_go (ok := true) rfl 2 rfl rfl
theorem d_47_209 {B : zeB} {im : Nat → Nat → Int32} {lm : Nat → Nat → Int64} (l1 : Int32) (l2 : Int32) (l3 : Int32) (o4 : Option Value) (l5 : Int32) (o6 : Option Value) (s1 : Int32)  : zeRun 47 209 [some (.ref 170), some (.int l1), some (.int l2), some (.int l3), o4, some (.int l5), o6] [.int s1, .ref 176] (zk B im lm) = zeRun 47 227 [some (.ref 170), some (.int l1), some (.int l2), some (.int l3), o4, some (.int l5), o6] [.int 0, .int s1, .ref 176] (zk B im lm) := ze_go (ok := true) rfl 2 rfl rfl
theorem d_47_227 {B : zeB} {im : Nat → Nat → Int32} {lm : Nat → Nat → Int64} (l1 : Int32) (l2 : Int32) (l3 : Int32) (o4 : Option Value) (l5 : Int32) (o6 : Option Value) (s1 : Int32) (s2 : Int32) (c0 : zeInb s1 60 = true) (c1 : zeInb l2 6 = true) : zeRun 47 227 [some (.ref 170), some (.int l1), some (.int l2), some (.int l3), o4, some (.int l5), o6] [.int s2, .int s1, .ref 176] (zk B im lm) = if l5 = 0 then zeRun 47 240 [some (.ref 170), some (.int l1), some (.int l2), some (.int l3), o4, some (.int l5), o6] [.int (im 175 (Int32.toNatClampNeg l2)), .int l2, .ref 175] (zk B (zeU2 im 176 (Int32.toNatClampNeg s1) s2) lm) else zeRun 47 250 [some (.ref 170), some (.int l1), some (.int l2), some (.int l3), o4, some (.int l5), o6] [.int (im 175 (Int32.toNatClampNeg l2)), .int l2, .ref 175] (zk B (zeU2 im 176 (Int32.toNatClampNeg s1) s2) lm) := ze_if (ok := (zeInb l2 6 && (zeInb s1 60 && true))) rfl 8 rfl (zeA2 c1 (zeA2 c0 rfl))
theorem d_47_240 {B : zeB} {im : Nat → Nat → Int32} {lm : Nat → Nat → Int64} (l1 : Int32) (l2 : Int32) (l3 : Int32) (o4 : Option Value) (l5 : Int32) (o6 : Option Value) (s1 : Int32) (s2 : Int32) (c0 : zeInb l1 60 = true) : zeRun 47 240 [some (.ref 170), some (.int l1), some (.int l2), some (.int l3), o4, some (.int l5), o6] [.int s2, .int s1, .ref 175] (zk B im lm) = zeRun 47 256 [some (.ref 170), some (.int l1), some (.int l2), some (.int l3), o4, some (.int l5), o6] [.int (-(im 176 (Int32.toNatClampNeg l1))), .int s2, .int s1, .ref 175] (zk B im lm) := ze_go (ok := (zeInb l1 60 && true)) rfl 6 rfl (zeA2 c0 rfl)
theorem d_47_250 {B : zeB} {im : Nat → Nat → Int32} {lm : Nat → Nat → Int64} (l1 : Int32) (l2 : Int32) (l3 : Int32) (o4 : Option Value) (l5 : Int32) (o6 : Option Value) (s1 : Int32) (s2 : Int32) (c0 : zeInb l1 60 = true) : zeRun 47 250 [some (.ref 170), some (.int l1), some (.int l2), some (.int l3), o4, some (.int l5), o6] [.int s2, .int s1, .ref 175] (zk B im lm) = zeRun 47 256 [some (.ref 170), some (.int l1), some (.int l2), some (.int l3), o4, some (.int l5), o6] [.int (im 176 (Int32.toNatClampNeg l1)), .int s2, .int s1, .ref 175] (zk B im lm) := ze_go (ok := (zeInb l1 60 && true)) rfl 4 rfl (zeA2 c0 rfl)
theorem d_47_256 {B : zeB} {im : Nat → Nat → Int32} {lm : Nat → Nat → Int64} (l1 : Int32) (l2 : Int32) (l3 : Int32) (o4 : Option Value) (l5 : Int32) (o6 : Option Value) (s1 : Int32) (s2 : Int32) (s3 : Int32) (c0 : zeInb s1 6 = true) (c1 : zeInb l2 6 = true) (c2 : zeInb l1 60 = true) (c3 : zeInb l2 6 = true) : zeRun 47 256 [some (.ref 170), some (.int l1), some (.int l2), some (.int l3), o4, some (.int l5), o6] [.int s3, .int s2, .int s1, .ref 175] (zk B im lm) = if l3 = 4 then zeRun 47 282 [some (.ref 170), some (.int l1), some (.int l2), some (.int l3), o4, some (.int l5), o6] [.int (im 181 (Int32.toNatClampNeg l2)), .int l2, .ref 181] (zk B (zeU2 (zeU2 im 175 (Int32.toNatClampNeg s1) (s2 + s3)) 178 (Int32.toNatClampNeg l1) ((zeU2 im 175 (Int32.toNatClampNeg s1) (s2 + s3)) 175 (Int32.toNatClampNeg l2))) lm) else zeRun 47 291 [some (.ref 170), some (.int l1), some (.int l2), some (.int l3), o4, some (.int l5), o6] [.int (im 181 (Int32.toNatClampNeg l2)), .int l2, .ref 181] (zk B (zeU2 (zeU2 im 175 (Int32.toNatClampNeg s1) (s2 + s3)) 178 (Int32.toNatClampNeg l1) ((zeU2 im 175 (Int32.toNatClampNeg s1) (s2 + s3)) 175 (Int32.toNatClampNeg l2))) lm) := ze_if (ok := (zeInb l2 6 && (zeInb l1 60 && (zeInb l2 6 && (zeInb s1 6 && true))))) rfl 18 rfl (zeA2 c3 (zeA2 c2 (zeA2 c1 (zeA2 c0 rfl))))
theorem d_47_282 {B : zeB} {im : Nat → Nat → Int32} {lm : Nat → Nat → Int64} (l1 : Int32) (l2 : Int32) (l3 : Int32) (o4 : Option Value) (l5 : Int32) (o6 : Option Value) (s1 : Int32) (s2 : Int32) (c0 : zeInb l1 60 = true) : zeRun 47 282 [some (.ref 170), some (.int l1), some (.int l2), some (.int l3), o4, some (.int l5), o6] [.int s2, .int s1, .ref 181] (zk B im lm) = zeRun 47 292 [some (.ref 170), some (.int l1), some (.int l2), some (.int l3), o4, some (.int l5), o6] [.int (im 176 (Int32.toNatClampNeg l1)), .int s2, .int s1, .ref 181] (zk B im lm) := ze_go (ok := (zeInb l1 60 && true)) rfl 5 rfl (zeA2 c0 rfl)
theorem d_47_291 {B : zeB} {im : Nat → Nat → Int32} {lm : Nat → Nat → Int64} (l1 : Int32) (l2 : Int32) (l3 : Int32) (o4 : Option Value) (l5 : Int32) (o6 : Option Value) (s1 : Int32) (s2 : Int32)  : zeRun 47 291 [some (.ref 170), some (.int l1), some (.int l2), some (.int l3), o4, some (.int l5), o6] [.int s2, .int s1, .ref 181] (zk B im lm) = zeRun 47 292 [some (.ref 170), some (.int l1), some (.int l2), some (.int l3), o4, some (.int l5), o6] [.int 0, .int s2, .int s1, .ref 181] (zk B im lm) := ze_go (ok := true) rfl 1 rfl rfl
theorem d_47_292 {B : zeB} {im : Nat → Nat → Int32} {lm : Nat → Nat → Int64} (l1 : Int32) (l2 : Int32) (l3 : Int32) (o4 : Option Value) (l5 : Int32) (o6 : Option Value) (s1 : Int32) (s2 : Int32) (s3 : Int32) (c0 : zeInb s1 6 = true) (c1 : zeInb l2 6 = true) : zeRun 47 292 [some (.ref 170), some (.int l1), some (.int l2), some (.int l3), o4, some (.int l5), o6] [.int s3, .int s2, .int s1, .ref 181] (zk B im lm) = if 4 ≤ l3 then zeRun 47 325 [some (.ref 170), some (.int l1), some (.int l2), some (.int l3), o4, some (.int l5), o6] [.int (im 179 (Int32.toNatClampNeg l2)), .int l2, .ref 179] (zk B (zeU2 im 181 (Int32.toNatClampNeg s1) (s2 + s3)) lm) else zeRun 47 306 [some (.ref 170), some (.int l1), some (.int l2), some (.int l3), o4, some (.int l5), o6] [.int (im 179 (Int32.toNatClampNeg l2)), .int l2, .ref 179] (zk B (zeU2 im 181 (Int32.toNatClampNeg s1) (s2 + s3)) lm) := ze_if (ok := (zeInb l2 6 && (zeInb s1 6 && true))) rfl 10 rfl (zeA2 c1 (zeA2 c0 rfl))
theorem d_47_325 {B : zeB} {im : Nat → Nat → Int32} {lm : Nat → Nat → Int64} (l1 : Int32) (l2 : Int32) (l3 : Int32) (o4 : Option Value) (l5 : Int32) (o6 : Option Value) (s1 : Int32) (s2 : Int32)  : zeRun 47 325 [some (.ref 170), some (.int l1), some (.int l2), some (.int l3), o4, some (.int l5), o6] [.int s2, .int s1, .ref 179] (zk B im lm) = zeRun 47 326 [some (.ref 170), some (.int l1), some (.int l2), some (.int l3), o4, some (.int l5), o6] [.int 0, .int s2, .int s1, .ref 179] (zk B im lm) := ze_go (ok := true) rfl 1 rfl rfl
theorem d_47_306 {B : zeB} {im : Nat → Nat → Int32} {lm : Nat → Nat → Int64} (l1 : Int32) (l2 : Int32) (l3 : Int32) (o4 : Option Value) (l5 : Int32) (o6 : Option Value) (s1 : Int32) (s2 : Int32)  : zeRun 47 306 [some (.ref 170), some (.int l1), some (.int l2), some (.int l3), o4, some (.int l5), o6] [.int s2, .int s1, .ref 179] (zk B im lm) = if l5 = 1 then zeRun 47 312 [some (.ref 170), some (.int l1), some (.int l2), some (.int l3), o4, some (.int l5), o6] [.int s2, .int s1, .ref 179] (zk B im lm) else zeRun 47 325 [some (.ref 170), some (.int l1), some (.int l2), some (.int l3), o4, some (.int l5), o6] [.int s2, .int s1, .ref 179] (zk B im lm) := ze_if (ok := true) rfl 3 rfl rfl
theorem d_47_312 {B : zeB} {im : Nat → Nat → Int32} {lm : Nat → Nat → Int64} (l1 : Int32) (l2 : Int32) (l3 : Int32) (o4 : Option Value) (l5 : Int32) (o6 : Option Value) (s1 : Int32) (s2 : Int32) (c0 : zeInb l1 60 = true) : zeRun 47 312 [some (.ref 170), some (.int l1), some (.int l2), some (.int l3), o4, some (.int l5), o6] [.int s2, .int s1, .ref 179] (zk B im lm) = if (im 177 (Int32.toNatClampNeg l1)) = 0 then zeRun 47 321 [some (.ref 170), some (.int l1), some (.int l2), some (.int l3), o4, some (.int l5), o6] [.int s2, .int s1, .ref 179] (zk B im lm) else zeRun 47 325 [some (.ref 170), some (.int l1), some (.int l2), some (.int l3), o4, some (.int l5), o6] [.int s2, .int s1, .ref 179] (zk B im lm) := ze_if (ok := (zeInb l1 60 && true)) rfl 5 rfl (zeA2 c0 rfl)
theorem d_47_321 {B : zeB} {im : Nat → Nat → Int32} {lm : Nat → Nat → Int64} (l1 : Int32) (l2 : Int32) (l3 : Int32) (o4 : Option Value) (l5 : Int32) (o6 : Option Value) (s1 : Int32) (s2 : Int32)  : zeRun 47 321 [some (.ref 170), some (.int l1), some (.int l2), some (.int l3), o4, some (.int l5), o6] [.int s2, .int s1, .ref 179] (zk B im lm) = zeRun 47 326 [some (.ref 170), some (.int l1), some (.int l2), some (.int l3), o4, some (.int l5), o6] [.int 1, .int s2, .int s1, .ref 179] (zk B im lm) := ze_go (ok := true) rfl 2 rfl rfl
theorem d_47_326 {B : zeB} {im : Nat → Nat → Int32} {lm : Nat → Nat → Int64} (l1 : Int32) (l2 : Int32) (l3 : Int32) (o4 : Option Value) (l5 : Int32) (o6 : Option Value) (s1 : Int32) (s2 : Int32) (s3 : Int32) (c0 : zeInb s1 6 = true) (c1 : zeInb l2 6 = true) : zeRun 47 326 [some (.ref 170), some (.int l1), some (.int l2), some (.int l3), o4, some (.int l5), o6] [.int s3, .int s2, .int s1, .ref 179] (zk B im lm) = if 4 ≤ l3 then zeRun 47 358 [some (.ref 170), some (.int l1), some (.int l2), some (.int l3), o4, some (.int l5), o6] [.int (im 180 (Int32.toNatClampNeg l2)), .int l2, .ref 180] (zk B (zeU2 im 179 (Int32.toNatClampNeg s1) (s2 + s3)) lm) else zeRun 47 340 [some (.ref 170), some (.int l1), some (.int l2), some (.int l3), o4, some (.int l5), o6] [.int (im 180 (Int32.toNatClampNeg l2)), .int l2, .ref 180] (zk B (zeU2 im 179 (Int32.toNatClampNeg s1) (s2 + s3)) lm) := ze_if (ok := (zeInb l2 6 && (zeInb s1 6 && true))) rfl 10 rfl (zeA2 c1 (zeA2 c0 rfl))
theorem d_47_358 {B : zeB} {im : Nat → Nat → Int32} {lm : Nat → Nat → Int64} (l1 : Int32) (l2 : Int32) (l3 : Int32) (o4 : Option Value) (l5 : Int32) (o6 : Option Value) (s1 : Int32) (s2 : Int32)  : zeRun 47 358 [some (.ref 170), some (.int l1), some (.int l2), some (.int l3), o4, some (.int l5), o6] [.int s2, .int s1, .ref 180] (zk B im lm) = zeRun 47 359 [some (.ref 170), some (.int l1), some (.int l2), some (.int l3), o4, some (.int l5), o6] [.int 0, .int s2, .int s1, .ref 180] (zk B im lm) := ze_go (ok := true) rfl 1 rfl rfl
theorem d_47_340 {B : zeB} {im : Nat → Nat → Int32} {lm : Nat → Nat → Int64} (l1 : Int32) (l2 : Int32) (l3 : Int32) (o4 : Option Value) (l5 : Int32) (o6 : Option Value) (s1 : Int32) (s2 : Int32)  : zeRun 47 340 [some (.ref 170), some (.int l1), some (.int l2), some (.int l3), o4, some (.int l5), o6] [.int s2, .int s1, .ref 180] (zk B im lm) = if l5 = 0 then zeRun 47 345 [some (.ref 170), some (.int l1), some (.int l2), some (.int l3), o4, some (.int l5), o6] [.int s2, .int s1, .ref 180] (zk B im lm) else zeRun 47 358 [some (.ref 170), some (.int l1), some (.int l2), some (.int l3), o4, some (.int l5), o6] [.int s2, .int s1, .ref 180] (zk B im lm) := ze_if (ok := true) rfl 2 rfl rfl
theorem d_47_345 {B : zeB} {im : Nat → Nat → Int32} {lm : Nat → Nat → Int64} (l1 : Int32) (l2 : Int32) (l3 : Int32) (o4 : Option Value) (l5 : Int32) (o6 : Option Value) (s1 : Int32) (s2 : Int32) (c0 : zeInb l1 60 = true) : zeRun 47 345 [some (.ref 170), some (.int l1), some (.int l2), some (.int l3), o4, some (.int l5), o6] [.int s2, .int s1, .ref 180] (zk B im lm) = if (im 177 (Int32.toNatClampNeg l1)) = 0 then zeRun 47 354 [some (.ref 170), some (.int l1), some (.int l2), some (.int l3), o4, some (.int l5), o6] [.int s2, .int s1, .ref 180] (zk B im lm) else zeRun 47 358 [some (.ref 170), some (.int l1), some (.int l2), some (.int l3), o4, some (.int l5), o6] [.int s2, .int s1, .ref 180] (zk B im lm) := ze_if (ok := (zeInb l1 60 && true)) rfl 5 rfl (zeA2 c0 rfl)
theorem d_47_354 {B : zeB} {im : Nat → Nat → Int32} {lm : Nat → Nat → Int64} (l1 : Int32) (l2 : Int32) (l3 : Int32) (o4 : Option Value) (l5 : Int32) (o6 : Option Value) (s1 : Int32) (s2 : Int32)  : zeRun 47 354 [some (.ref 170), some (.int l1), some (.int l2), some (.int l3), o4, some (.int l5), o6] [.int s2, .int s1, .ref 180] (zk B im lm) = zeRun 47 359 [some (.ref 170), some (.int l1), some (.int l2), some (.int l3), o4, some (.int l5), o6] [.int 1, .int s2, .int s1, .ref 180] (zk B im lm) := ze_go (ok := true) rfl 2 rfl rfl
theorem d_47_359 {B : zeB} {im : Nat → Nat → Int32} {lm : Nat → Nat → Int64} (l1 : Int32) (l2 : Int32) (l3 : Int32) (o4 : Option Value) (l5 : Int32) (o6 : Option Value) (s1 : Int32) (s2 : Int32) (s3 : Int32) (c0 : zeInb s1 6 = true) : zeRun 47 359 [some (.ref 170), some (.int l1), some (.int l2), some (.int l3), o4, some (.int l5), o6] [.int s3, .int s2, .int s1, .ref 180] (zk B im lm) = if 3 ≤ l3 then zeRun 47 386 [some (.ref 170), some (.int l1), some (.int l2), some (.int l3), o4, some (.int l5), o6] [.ref 170] (zk B (zeU2 im 180 (Int32.toNatClampNeg s1) (s2 + s3)) lm) else zeRun 47 367 [some (.ref 170), some (.int l1), some (.int l2), some (.int l3), o4, some (.int l5), o6] [.ref 170] (zk B (zeU2 im 180 (Int32.toNatClampNeg s1) (s2 + s3)) lm) := ze_if (ok := (zeInb s1 6 && true)) rfl 6 rfl (zeA2 c0 rfl)
theorem d_47_386 {B : zeB} {im : Nat → Nat → Int32} {lm : Nat → Nat → Int64} (l1 : Int32) (o2 : Option Value) (o3 : Option Value) (o4 : Option Value) (o5 : Option Value) (o6 : Option Value)  : zeRun 47 386 [some (.ref 170), some (.int l1), o2, o3, o4, o5, o6] [.ref 170] (zk B im lm) = zeRun 47 390 [some (.ref 170), some (.int l1), o2, o3, o4, o5, o6] [.int (im 170 13), .ref 170] (zk B im lm) := ze_go (ok := true) rfl 2 rfl rfl
theorem d_47_367 {B : zeB} {im : Nat → Nat → Int32} {lm : Nat → Nat → Int64} (l1 : Int32) (l2 : Int32) (o3 : Option Value) (o4 : Option Value) (l5 : Int32) (o6 : Option Value)  : zeRun 47 367 [some (.ref 170), some (.int l1), some (.int l2), o3, o4, some (.int l5), o6] [.ref 170] (zk B im lm) = if l5 = 1 then zeRun 47 373 [some (.ref 170), some (.int l1), some (.int l2), o3, o4, some (.int l5), o6] [.ref 170] (zk B im lm) else zeRun 47 386 [some (.ref 170), some (.int l1), some (.int l2), o3, o4, some (.int l5), o6] [.ref 170] (zk B im lm) := ze_if (ok := true) rfl 3 rfl rfl
theorem d_47_373 {B : zeB} {im : Nat → Nat → Int32} {lm : Nat → Nat → Int64} (l1 : Int32) (l2 : Int32) (o3 : Option Value) (o4 : Option Value) (o5 : Option Value) (o6 : Option Value) (c0 : zeInb l1 60 = true) : zeRun 47 373 [some (.ref 170), some (.int l1), some (.int l2), o3, o4, o5, o6] [.ref 170] (zk B im lm) = if (im 177 (Int32.toNatClampNeg l1)) = 0 then zeRun 47 382 [some (.ref 170), some (.int l1), some (.int l2), o3, o4, o5, o6] [.ref 170] (zk B im lm) else zeRun 47 386 [some (.ref 170), some (.int l1), some (.int l2), o3, o4, o5, o6] [.ref 170] (zk B im lm) := ze_if (ok := (zeInb l1 60 && true)) rfl 5 rfl (zeA2 c0 rfl)
theorem d_47_382 {B : zeB} {im : Nat → Nat → Int32} {lm : Nat → Nat → Int64} (l1 : Int32) (l2 : Int32) (o3 : Option Value) (o4 : Option Value) (o5 : Option Value) (o6 : Option Value)  : zeRun 47 382 [some (.ref 170), some (.int l1), some (.int l2), o3, o4, o5, o6] [.ref 170] (zk B im lm) = zeRun 47 390 [some (.ref 170), some (.int l1), some (.int l2), o3, o4, o5, o6] [.int l2, .ref 170] (zk B im lm) := ze_go (ok := true) rfl 2 rfl rfl
theorem d_47_390 {B : zeB} {im : Nat → Nat → Int32} {lm : Nat → Nat → Int64} (l1 : Int32) (o2 : Option Value) (o3 : Option Value) (o4 : Option Value) (o5 : Option Value) (o6 : Option Value) (s1 : Int32)  : zeRun 47 390 [some (.ref 170), some (.int l1), o2, o3, o4, o5, o6] [.int s1, .ref 170] (zk B im lm) = zeRun 47 63 [some (.ref 170), some (.int (l1 + 1)), o2, o3, o4, o5, o6] [] (zk B (zeU2 im 170 13 s1) lm) := ze_go (ok := true) rfl 3 rfl rfl
def J_47_390 (K63 : Int32 → zI → zJ → zR) (l1 : Int32) (s1 : Int32) (im : zI) (lm : zJ) : zR :=
    K63 (l1 + 1) (zeU2 im 170 13 s1) lm
theorem J_47_390_ok {B : zeB} (K63 : Int32 → zI → zJ → zR) (hK63 : ∀ (l1 : Int32) (o2 : Option Value) (o3 : Option Value) (o4 : Option Value) (o5 : Option Value) (o6 : Option Value) (im : zI) (lm : zJ), zL B 0 (K63 l1 im lm) (zeRun 47 63 [some (.ref 170), some (.int l1), o2, o3, o4, o5, o6] [] (zk B im lm))) (l1 : Int32) (s1 : Int32) (o2 : Option Value) (o3 : Option Value) (o4 : Option Value) (o5 : Option Value) (o6 : Option Value) (im : zI) (lm : zJ) : zL B 0 (J_47_390 K63 l1 s1 im lm) (zeRun 47 390 [some (.ref 170), some (.int l1), o2, o3, o4, o5, o6] [.int s1, .ref 170] (zk B im lm)) := by
  unfold J_47_390
  refine zL_eq (d_47_390 _ _ _ _ _ _ _) ?_
  exact hK63 _ _ _ _ _ _ _ _
def J_47_359 (K63 : Int32 → zI → zJ → zR) (l1 : Int32) (l2 : Int32) (l3 : Int32) (l5 : Int32) (s1 : Int32) (s2 : Int32) (s3 : Int32) (im : zI) (lm : zJ) : zR :=
    zCk (zeInb s1 6) <|
    zCk (if 3 ≤ l3 then true else if l5 = 1 then zeInb l1 60 else true) <|
    J_47_390 K63  l1 (if 3 ≤ l3 then ((zeU2 im 180 (Int32.toNatClampNeg s1) (s2 + s3)) 170 13) else if l5 = 1 then if ((zeU2 im 180 (Int32.toNatClampNeg s1) (s2 + s3)) 177 (Int32.toNatClampNeg l1)) = 0 then l2 else ((zeU2 im 180 (Int32.toNatClampNeg s1) (s2 + s3)) 170 13) else ((zeU2 im 180 (Int32.toNatClampNeg s1) (s2 + s3)) 170 13)) (zeU2 im 180 (Int32.toNatClampNeg s1) (s2 + s3)) lm
theorem J_47_359_ok {B : zeB} (K63 : Int32 → zI → zJ → zR) (hK63 : ∀ (l1 : Int32) (o2 : Option Value) (o3 : Option Value) (o4 : Option Value) (o5 : Option Value) (o6 : Option Value) (im : zI) (lm : zJ), zL B 0 (K63 l1 im lm) (zeRun 47 63 [some (.ref 170), some (.int l1), o2, o3, o4, o5, o6] [] (zk B im lm))) (l1 : Int32) (l2 : Int32) (l3 : Int32) (l5 : Int32) (s1 : Int32) (s2 : Int32) (s3 : Int32) (o4 : Option Value) (o6 : Option Value) (im : zI) (lm : zJ) : zL B 0 (J_47_359 K63 l1 l2 l3 l5 s1 s2 s3 im lm) (zeRun 47 359 [some (.ref 170), some (.int l1), some (.int l2), some (.int l3), o4, some (.int l5), o6] [.int s3, .int s2, .int s1, .ref 180] (zk B im lm)) := by
  unfold J_47_359
  refine zL_ck fun c1 => ?_
  refine zL_ifm (d_47_359 _ _ _ _ _ _ _ _ _ c1) (fun h => ?_) (fun h => ?_)
  · repeat rw [if_pos h]
    refine zL_eq (d_47_386 _ _ _ _ _ _) ?_
    refine zL_ckt ?_
    exact J_47_390_ok _ hK63  _ _ _ _ _ _ _ _ _
  · repeat rw [if_neg h]
    refine zL_ifm (d_47_367 _ _ _ _ _ _) (fun h => ?_) (fun h => ?_)
    · repeat rw [if_pos h]
      refine zL_ck fun c2 => ?_
      refine zL_ifm (d_47_373 _ _ _ _ _ _ c2) (fun h => ?_) (fun h => ?_)
      · repeat rw [if_pos h]
        refine zL_eq (d_47_382 _ _ _ _ _ _) ?_
        exact J_47_390_ok _ hK63  _ _ _ _ _ _ _ _ _
      · repeat rw [if_neg h]
        refine zL_eq (d_47_386 _ _ _ _ _ _) ?_
        exact J_47_390_ok _ hK63  _ _ _ _ _ _ _ _ _
    · repeat rw [if_neg h]
      refine zL_eq (d_47_386 _ _ _ _ _ _) ?_
      refine zL_ckt ?_
      exact J_47_390_ok _ hK63  _ _ _ _ _ _ _ _ _
def J_47_326 (K63 : Int32 → zI → zJ → zR) (l1 : Int32) (l2 : Int32) (l3 : Int32) (l5 : Int32) (s1 : Int32) (s2 : Int32) (s3 : Int32) (im : zI) (lm : zJ) : zR :=
    zCk (zeInb s1 6) <|
    zCk (zeInb l2 6) <|
    zCk (if 4 ≤ l3 then true else if l5 = 0 then zeInb l1 60 else true) <|
    J_47_359 K63  l1 l2 l3 l5 l2 (im 180 (Int32.toNatClampNeg l2)) (if 4 ≤ l3 then 0 else if l5 = 0 then if ((zeU2 im 179 (Int32.toNatClampNeg s1) (s2 + s3)) 177 (Int32.toNatClampNeg l1)) = 0 then 1 else 0 else 0) (zeU2 im 179 (Int32.toNatClampNeg s1) (s2 + s3)) lm
theorem J_47_326_ok {B : zeB} (K63 : Int32 → zI → zJ → zR) (hK63 : ∀ (l1 : Int32) (o2 : Option Value) (o3 : Option Value) (o4 : Option Value) (o5 : Option Value) (o6 : Option Value) (im : zI) (lm : zJ), zL B 0 (K63 l1 im lm) (zeRun 47 63 [some (.ref 170), some (.int l1), o2, o3, o4, o5, o6] [] (zk B im lm))) (l1 : Int32) (l2 : Int32) (l3 : Int32) (l5 : Int32) (s1 : Int32) (s2 : Int32) (s3 : Int32) (o4 : Option Value) (o6 : Option Value) (im : zI) (lm : zJ) : zL B 0 (J_47_326 K63 l1 l2 l3 l5 s1 s2 s3 im lm) (zeRun 47 326 [some (.ref 170), some (.int l1), some (.int l2), some (.int l3), o4, some (.int l5), o6] [.int s3, .int s2, .int s1, .ref 179] (zk B im lm)) := by
  unfold J_47_326
  refine zL_ck fun c1 => ?_
  refine zL_ck fun c2 => ?_
  refine zL_ifm (d_47_326 _ _ _ _ _ _ _ _ _ c1 c2) (fun h => ?_) (fun h => ?_)
  · repeat rw [if_pos h]
    refine zL_eq (d_47_358 _ _ _ _ _ _ _ _) ?_
    refine zL_ckt ?_
    exact J_47_359_ok _ hK63  _ _ _ _ _ _ _ _ _ _ _
  · repeat rw [if_neg h]
    refine zL_ifm (d_47_340 _ _ _ _ _ _ _ _) (fun h => ?_) (fun h => ?_)
    · repeat rw [if_pos h]
      refine zL_ck fun c3 => ?_
      refine zL_ifm (d_47_345 _ _ _ _ _ _ _ _ c3) (fun h => ?_) (fun h => ?_)
      · repeat rw [if_pos h]
        refine zL_eq (d_47_354 _ _ _ _ _ _ _ _) ?_
        exact J_47_359_ok _ hK63  _ _ _ _ _ _ _ _ _ _ _
      · repeat rw [if_neg h]
        refine zL_eq (d_47_358 _ _ _ _ _ _ _ _) ?_
        exact J_47_359_ok _ hK63  _ _ _ _ _ _ _ _ _ _ _
    · repeat rw [if_neg h]
      refine zL_eq (d_47_358 _ _ _ _ _ _ _ _) ?_
      refine zL_ckt ?_
      exact J_47_359_ok _ hK63  _ _ _ _ _ _ _ _ _ _ _
def J_47_292 (K63 : Int32 → zI → zJ → zR) (l1 : Int32) (l2 : Int32) (l3 : Int32) (l5 : Int32) (s1 : Int32) (s2 : Int32) (s3 : Int32) (im : zI) (lm : zJ) : zR :=
    zCk (zeInb s1 6) <|
    zCk (zeInb l2 6) <|
    zCk (if 4 ≤ l3 then true else if l5 = 1 then zeInb l1 60 else true) <|
    J_47_326 K63  l1 l2 l3 l5 l2 (im 179 (Int32.toNatClampNeg l2)) (if 4 ≤ l3 then 0 else if l5 = 1 then if ((zeU2 im 181 (Int32.toNatClampNeg s1) (s2 + s3)) 177 (Int32.toNatClampNeg l1)) = 0 then 1 else 0 else 0) (zeU2 im 181 (Int32.toNatClampNeg s1) (s2 + s3)) lm
theorem J_47_292_ok {B : zeB} (K63 : Int32 → zI → zJ → zR) (hK63 : ∀ (l1 : Int32) (o2 : Option Value) (o3 : Option Value) (o4 : Option Value) (o5 : Option Value) (o6 : Option Value) (im : zI) (lm : zJ), zL B 0 (K63 l1 im lm) (zeRun 47 63 [some (.ref 170), some (.int l1), o2, o3, o4, o5, o6] [] (zk B im lm))) (l1 : Int32) (l2 : Int32) (l3 : Int32) (l5 : Int32) (s1 : Int32) (s2 : Int32) (s3 : Int32) (o4 : Option Value) (o6 : Option Value) (im : zI) (lm : zJ) : zL B 0 (J_47_292 K63 l1 l2 l3 l5 s1 s2 s3 im lm) (zeRun 47 292 [some (.ref 170), some (.int l1), some (.int l2), some (.int l3), o4, some (.int l5), o6] [.int s3, .int s2, .int s1, .ref 181] (zk B im lm)) := by
  unfold J_47_292
  refine zL_ck fun c1 => ?_
  refine zL_ck fun c2 => ?_
  refine zL_ifm (d_47_292 _ _ _ _ _ _ _ _ _ c1 c2) (fun h => ?_) (fun h => ?_)
  · repeat rw [if_pos h]
    refine zL_eq (d_47_325 _ _ _ _ _ _ _ _) ?_
    refine zL_ckt ?_
    exact J_47_326_ok _ hK63  _ _ _ _ _ _ _ _ _ _ _
  · repeat rw [if_neg h]
    refine zL_ifm (d_47_306 _ _ _ _ _ _ _ _) (fun h => ?_) (fun h => ?_)
    · repeat rw [if_pos h]
      refine zL_ck fun c3 => ?_
      refine zL_ifm (d_47_312 _ _ _ _ _ _ _ _ c3) (fun h => ?_) (fun h => ?_)
      · repeat rw [if_pos h]
        refine zL_eq (d_47_321 _ _ _ _ _ _ _ _) ?_
        exact J_47_326_ok _ hK63  _ _ _ _ _ _ _ _ _ _ _
      · repeat rw [if_neg h]
        refine zL_eq (d_47_325 _ _ _ _ _ _ _ _) ?_
        exact J_47_326_ok _ hK63  _ _ _ _ _ _ _ _ _ _ _
    · repeat rw [if_neg h]
      refine zL_eq (d_47_325 _ _ _ _ _ _ _ _) ?_
      refine zL_ckt ?_
      exact J_47_326_ok _ hK63  _ _ _ _ _ _ _ _ _ _ _
def J_47_256 (K63 : Int32 → zI → zJ → zR) (l1 : Int32) (l2 : Int32) (l3 : Int32) (l5 : Int32) (s1 : Int32) (s2 : Int32) (s3 : Int32) (im : zI) (lm : zJ) : zR :=
    zCk (zeInb s1 6) <|
    zCk (zeInb l2 6) <|
    zCk (zeInb l1 60) <|
    J_47_292 K63  l1 l2 l3 l5 l2 (im 181 (Int32.toNatClampNeg l2)) (if l3 = 4 then ((zeU2 (zeU2 im 175 (Int32.toNatClampNeg s1) (s2 + s3)) 178 (Int32.toNatClampNeg l1) ((zeU2 im 175 (Int32.toNatClampNeg s1) (s2 + s3)) 175 (Int32.toNatClampNeg l2))) 176 (Int32.toNatClampNeg l1)) else 0) (zeU2 (zeU2 im 175 (Int32.toNatClampNeg s1) (s2 + s3)) 178 (Int32.toNatClampNeg l1) ((zeU2 im 175 (Int32.toNatClampNeg s1) (s2 + s3)) 175 (Int32.toNatClampNeg l2))) lm
theorem J_47_256_ok {B : zeB} (K63 : Int32 → zI → zJ → zR) (hK63 : ∀ (l1 : Int32) (o2 : Option Value) (o3 : Option Value) (o4 : Option Value) (o5 : Option Value) (o6 : Option Value) (im : zI) (lm : zJ), zL B 0 (K63 l1 im lm) (zeRun 47 63 [some (.ref 170), some (.int l1), o2, o3, o4, o5, o6] [] (zk B im lm))) (l1 : Int32) (l2 : Int32) (l3 : Int32) (l5 : Int32) (s1 : Int32) (s2 : Int32) (s3 : Int32) (o4 : Option Value) (o6 : Option Value) (im : zI) (lm : zJ) : zL B 0 (J_47_256 K63 l1 l2 l3 l5 s1 s2 s3 im lm) (zeRun 47 256 [some (.ref 170), some (.int l1), some (.int l2), some (.int l3), o4, some (.int l5), o6] [.int s3, .int s2, .int s1, .ref 175] (zk B im lm)) := by
  unfold J_47_256
  refine zL_ck fun c1 => ?_
  refine zL_ck fun c2 => ?_
  refine zL_ck fun c3 => ?_
  refine zL_ifm (d_47_256 _ _ _ _ _ _ _ _ _ c1 c2 c3 c2) (fun h => ?_) (fun h => ?_)
  · repeat rw [if_pos h]
    refine zL_eq (d_47_282 _ _ _ _ _ _ _ _ c3) ?_
    exact J_47_292_ok _ hK63  _ _ _ _ _ _ _ _ _ _ _
  · repeat rw [if_neg h]
    refine zL_eq (d_47_291 _ _ _ _ _ _ _ _) ?_
    exact J_47_292_ok _ hK63  _ _ _ _ _ _ _ _ _ _ _
def J_47_227 (K63 : Int32 → zI → zJ → zR) (l1 : Int32) (l2 : Int32) (l3 : Int32) (l5 : Int32) (s1 : Int32) (s2 : Int32) (im : zI) (lm : zJ) : zR :=
    zCk (zeInb s1 60) <|
    zCk (zeInb l2 6) <|
    zCk (zeInb l1 60) <|
    J_47_256 K63  l1 l2 l3 l5 l2 (im 175 (Int32.toNatClampNeg l2)) (if l5 = 0 then (-((zeU2 im 176 (Int32.toNatClampNeg s1) s2) 176 (Int32.toNatClampNeg l1))) else ((zeU2 im 176 (Int32.toNatClampNeg s1) s2) 176 (Int32.toNatClampNeg l1))) (zeU2 im 176 (Int32.toNatClampNeg s1) s2) lm
theorem J_47_227_ok {B : zeB} (K63 : Int32 → zI → zJ → zR) (hK63 : ∀ (l1 : Int32) (o2 : Option Value) (o3 : Option Value) (o4 : Option Value) (o5 : Option Value) (o6 : Option Value) (im : zI) (lm : zJ), zL B 0 (K63 l1 im lm) (zeRun 47 63 [some (.ref 170), some (.int l1), o2, o3, o4, o5, o6] [] (zk B im lm))) (l1 : Int32) (l2 : Int32) (l3 : Int32) (l5 : Int32) (s1 : Int32) (s2 : Int32) (o4 : Option Value) (o6 : Option Value) (im : zI) (lm : zJ) : zL B 0 (J_47_227 K63 l1 l2 l3 l5 s1 s2 im lm) (zeRun 47 227 [some (.ref 170), some (.int l1), some (.int l2), some (.int l3), o4, some (.int l5), o6] [.int s2, .int s1, .ref 176] (zk B im lm)) := by
  unfold J_47_227
  refine zL_ck fun c1 => ?_
  refine zL_ck fun c2 => ?_
  refine zL_ifm (d_47_227 _ _ _ _ _ _ _ _ c1 c2) (fun h => ?_) (fun h => ?_)
  · repeat rw [if_pos h]
    refine zL_ck fun c3 => ?_
    refine zL_eq (d_47_240 _ _ _ _ _ _ _ _ c3) ?_
    exact J_47_256_ok _ hK63  _ _ _ _ _ _ _ _ _ _ _
  · repeat rw [if_neg h]
    refine zL_ck fun c4 => ?_
    refine zL_eq (d_47_250 _ _ _ _ _ _ _ _ c4) ?_
    exact J_47_256_ok _ hK63  _ _ _ _ _ _ _ _ _ _ _
def J_47_182 (K63 : Int32 → zI → zJ → zR) (l1 : Int32) (l2 : Int32) (l3 : Int32) (l4 : Int32) (l5 : Int32) (s0 : Int32) (im : zI) (lm : zJ) : zR :=
    zBd (m_46 l1 im lm) fun v1 im1 lm1 =>
    zCk (zeInb l1 60) <|
    J_47_227 K63  l1 l2 l3 l5 l1 (if ((zeU2 im1 177 (Int32.toNatClampNeg l1) (vp_nar .boolean v1)) 177 (Int32.toNatClampNeg l1)) = 0 then if s0 ≤ l4 then s0 else l4 else 0) (zeU2 im1 177 (Int32.toNatClampNeg l1) (vp_nar .boolean v1)) lm1
theorem J_47_182_ok {B : zeB} (K63 : Int32 → zI → zJ → zR) (hK63 : ∀ (l1 : Int32) (o2 : Option Value) (o3 : Option Value) (o4 : Option Value) (o5 : Option Value) (o6 : Option Value) (im : zI) (lm : zJ), zL B 0 (K63 l1 im lm) (zeRun 47 63 [some (.ref 170), some (.int l1), o2, o3, o4, o5, o6] [] (zk B im lm))) (l1 : Int32) (l2 : Int32) (l3 : Int32) (l4 : Int32) (l5 : Int32) (s0 : Int32) (o6 : Option Value) (im : zI) (lm : zJ) : zL B 0 (J_47_182 K63 l1 l2 l3 l4 l5 s0 im lm) (zeRun 47 182 [some (.ref 170), some (.int l1), some (.int l2), some (.int l3), some (.int l4), some (.int l5), o6] [.int s0] (zk B im lm)) := by
  unfold J_47_182
  refine zL_bd (d_47_182 _ _ _ _ _ _ _) (m_46_ok _ _ _) fun v1 im1 lm1 => ?_
  refine zL_ck fun c1 => ?_
  refine zL_ifm (d_47_194 _ _ _ _ _ _ _ _ c1 c1) (fun h => ?_) (fun h => ?_)
  · repeat rw [if_pos h]
    refine zL_ifm (d_47_213 _ _ _ _ _ _ _) (fun h => ?_) (fun h => ?_)
    · repeat rw [if_pos h]
      refine zL_eq (d_47_225 _ _ _ _ _ _ _) ?_
      exact J_47_227_ok _ hK63  _ _ _ _ _ _ _ _ _ _
    · repeat rw [if_neg h]
      refine zL_eq (d_47_220 _ _ _ _ _ _ _) ?_
      exact J_47_227_ok _ hK63  _ _ _ _ _ _ _ _ _ _
  · repeat rw [if_neg h]
    refine zL_eq (d_47_209 _ _ _ _ _ _ _) ?_
    exact J_47_227_ok _ hK63  _ _ _ _ _ _ _ _ _ _
def F_47_63  : Nat → Int32 → zI → zJ → zR
  | 0, _, _, _ => none
  | n + 1, l1, im, lm =>
    if (im 171 5) ≤ l1 then
      some (0, im, lm)
    else
      zCk (zeInb ((60 + (5 * l1)) : Int32) 360) <|
      zCk (zeInb (((60 + (5 * l1)) : Int32) + 1) 360) <|
      zCk (zeInb (((60 + (5 * l1)) : Int32) + 3) 360) <|
      zCk (zeInb (((60 + (5 * l1)) : Int32) + 4) 360) <|
      zCk (if (im 171 (Int32.toNatClampNeg (((60 + (5 * l1)) : Int32) + 1))) = 2 then zeInb (im 171 (Int32.toNatClampNeg ((60 + (5 * l1)) : Int32))) 6 else if (im 171 (Int32.toNatClampNeg (((60 + (5 * l1)) : Int32) + 1))) = 3 then zeInb (im 171 (Int32.toNatClampNeg ((60 + (5 * l1)) : Int32))) 6 else true) <|
      J_47_182 (F_47_63  n)  l1 (im 171 (Int32.toNatClampNeg ((60 + (5 * l1)) : Int32))) (im 171 (Int32.toNatClampNeg (((60 + (5 * l1)) : Int32) + 1))) (im 171 (Int32.toNatClampNeg (((60 + (5 * l1)) : Int32) + 3))) (im 171 (Int32.toNatClampNeg (((60 + (5 * l1)) : Int32) + 4))) (if (im 171 (Int32.toNatClampNeg (((60 + (5 * l1)) : Int32) + 1))) = 2 then if (im 175 (Int32.toNatClampNeg (im 171 (Int32.toNatClampNeg ((60 + (5 * l1)) : Int32))))) ≤ 500 then 500 else (im 175 (Int32.toNatClampNeg (im 171 (Int32.toNatClampNeg ((60 + (5 * l1)) : Int32))))) else if (im 171 (Int32.toNatClampNeg (((60 + (5 * l1)) : Int32) + 1))) = 3 then if (im 175 (Int32.toNatClampNeg (im 171 (Int32.toNatClampNeg ((60 + (5 * l1)) : Int32))))) ≤ 0 then 0 else (im 175 (Int32.toNatClampNeg (im 171 (Int32.toNatClampNeg ((60 + (5 * l1)) : Int32))))) else (im 171 (Int32.toNatClampNeg (((60 + (5 * l1)) : Int32) + 3)))) im lm
theorem F_47_63_ok {B : zeB} : ∀ (n : Nat) (l1 : Int32) (o2 : Option Value) (o3 : Option Value) (o4 : Option Value) (o5 : Option Value) (o6 : Option Value) (im : zI) (lm : zJ), zL B 0 (F_47_63  n l1 im lm) (zeRun 47 63 [some (.ref 170), some (.int l1), o2, o3, o4, o5, o6] [] (zk B im lm)) := by
  intro n
  induction n with
  | zero => intros; exact zL_none
  | succ n ih =>
    intro l1 o2 o3 o4 o5 o6 im lm
    unfold F_47_63
    refine zL_if (d_47_63 _ _ _ _ _ _) (fun h => ?_) (fun h => ?_)
    · skip
      exact zL_retv (d_47_399 _ _ _ _ _ _ _)
    · skip
      refine zL_bdp (e := ((60 + (5 * l1)) : Int32)) (d_47_73 _ _ _ _ _ _) (m_45_ok _ _ _) ?_
      refine zL_ck fun c1 => ?_
      refine zL_bdp (e := ((60 + (5 * l1)) : Int32)) (d_47_81 _ _ _ _ _ _ _ c1) (m_45_ok _ _ _) ?_
      refine zL_ck fun c2 => ?_
      refine zL_bdp (e := ((60 + (5 * l1)) : Int32)) (d_47_91 _ _ _ _ _ _ _ c2) (m_45_ok _ _ _) ?_
      refine zL_ck fun c3 => ?_
      refine zL_bdp (e := ((60 + (5 * l1)) : Int32)) (d_47_103 _ _ _ _ _ _ _ c3) (m_45_ok _ _ _) ?_
      refine zL_ck fun c4 => ?_
      refine zL_ifm (d_47_116 _ _ _ _ _ _ _ c4) (fun h => ?_) (fun h => ?_)
      · repeat rw [if_pos h]
        refine zL_ck fun c5 => ?_
        refine zL_ifm (d_47_126 _ _ _ _ _ _ c5) (fun h => ?_) (fun h => ?_)
        · repeat rw [if_pos h]
          refine zL_eq (d_47_147 _ _ _ _ _ _) ?_
          exact J_47_182_ok _ ih  _ _ _ _ _ _ _ _ _
        · repeat rw [if_neg h]
          refine zL_eq (d_47_138 _ _ _ _ _ _ c5) ?_
          exact J_47_182_ok _ ih  _ _ _ _ _ _ _ _ _
      · repeat rw [if_neg h]
        refine zL_ifm (d_47_153 _ _ _ _ _ _) (fun h => ?_) (fun h => ?_)
        · repeat rw [if_pos h]
          refine zL_ck fun c6 => ?_
          refine zL_ifm (d_47_158 _ _ _ _ _ _ c6) (fun h => ?_) (fun h => ?_)
          · repeat rw [if_pos h]
            refine zL_eq (d_47_176 _ _ _ _ _ _) ?_
            exact J_47_182_ok _ ih  _ _ _ _ _ _ _ _ _
          · repeat rw [if_neg h]
            refine zL_eq (d_47_167 _ _ _ _ _ _ c6) ?_
            exact J_47_182_ok _ ih  _ _ _ _ _ _ _ _ _
        · repeat rw [if_neg h]
          refine zL_eq (d_47_180 _ _ _ _ _ _) ?_
          refine zL_ckt ?_
          exact J_47_182_ok _ ih  _ _ _ _ _ _ _ _ _
def F_47_21  : Nat → Int32 → zI → zJ → zR
  | 0, _, _, _ => none
  | n + 1, l1, im, lm =>
    if 6 ≤ l1 then
      F_47_63  2000 0 im lm
    else
      zCk (zeInb l1 6) <|
      F_47_21  n (l1 + 1) (zeU2 (zeU2 (zeU2 (zeU2 im 175 (Int32.toNatClampNeg l1) 0) 179 (Int32.toNatClampNeg l1) 0) 180 (Int32.toNatClampNeg l1) 0) 181 (Int32.toNatClampNeg l1) 0) lm
theorem F_47_21_ok {B : zeB} : ∀ (n : Nat) (l1 : Int32) (o2 : Option Value) (o3 : Option Value) (o4 : Option Value) (o5 : Option Value) (o6 : Option Value) (im : zI) (lm : zJ), zL B 0 (F_47_21  n l1 im lm) (zeRun 47 21 [some (.ref 170), some (.int l1), o2, o3, o4, o5, o6] [] (zk B im lm)) := by
  intro n
  induction n with
  | zero => intros; exact zL_none
  | succ n ih =>
    intro l1 o2 o3 o4 o5 o6 im lm
    unfold F_47_21
    refine zL_if (d_47_21 _ _ _ _ _ _) (fun h => ?_) (fun h => ?_)
    · skip
      refine zL_eq (d_47_61 _ _ _ _ _ _) ?_
      exact F_47_63_ok  _ _ _ _ _ _ _ _ _
    · skip
      refine zL_ck fun c1 => ?_
      refine zL_eq (d_47_27 _ _ _ _ _ _ c1 c1 c1 c1) ?_
      exact ih _ _ _ _ _ _ _ _
def J_47_16  (s1 : Int32) (im : zI) (lm : zJ) : zR :=
    F_47_21  2000 0 (zeU2 im 170 13 s1) lm
theorem J_47_16_ok {B : zeB} (s1 : Int32) (o1 : Option Value) (o2 : Option Value) (o3 : Option Value) (o4 : Option Value) (o5 : Option Value) (o6 : Option Value) (im : zI) (lm : zJ) : zL B 0 (J_47_16  s1 im lm) (zeRun 47 16 [some (.ref 170), o1, o2, o3, o4, o5, o6] [.int s1, .ref 170] (zk B im lm)) := by
  unfold J_47_16
  refine zL_eq (d_47_16 _ _ _ _ _ _ _) ?_
  exact F_47_21_ok  _ _ _ _ _ _ _ _ _
def m_47  (im : zI) (lm : zJ) : zR :=
    J_47_16   (if (im 171 1) = 0 then (-10000005) else 0) im lm
theorem m_47_ok {B : zeB}  (im : zI) (lm : zJ) : zL B 0 (m_47  im lm) (zeRun 47 0 [some (.ref 170), none, none, none, none, none, none] [] (zk B im lm)) := by
  unfold m_47
  refine zL_ifm (d_47_0 _ _ _ _ _ _) (fun h => ?_) (fun h => ?_)
  · repeat rw [if_pos h]
    refine zL_eq (d_47_10 _ _ _ _ _ _) ?_
    exact J_47_16_ok   _ _ _ _ _ _ _ _ _
  · repeat rw [if_neg h]
    refine zL_eq (d_47_15 _ _ _ _ _ _) ?_
    exact J_47_16_ok   _ _ _ _ _ _ _ _ _
/-! X8_checkPick -/
theorem d_48_0 {B : zeB} {im : Nat → Nat → Int32} {lm : Nat → Nat → Int64} (l1 : Int32) (l2 : Int32) (o3 : Option Value)  : zeRun 48 0 [some (.ref 170), some (.int l1), some (.int l2), o3] [] (zk B im lm) = zeBh 48 5 [some (.ref 170), some (.int l1), some (.int l2), o3] [] (zeRun 44 0 [some (.ref 170), some (.int l1)] [] (zk B im lm)) := ze_call (ok := true) rfl 3 rfl rfl rfl
theorem d_48_5 {B : zeB} {im : Nat → Nat → Int32} {lm : Nat → Nat → Int64} (l1 : Int32) (l2 : Int32) (o3 : Option Value) (s0 : Int32)  : zeRun 48 5 [some (.ref 170), some (.int l1), some (.int l2), o3] [.int s0] (zk B im lm) = if s0 = 0 then zeRun 48 8 [some (.ref 170), some (.int l1), some (.int l2), o3] [] (zk B im lm) else zeRun 48 18 [some (.ref 170), some (.int l1), some (.int l2), o3] [] (zk B im lm) := ze_if (ok := true) rfl 1 rfl rfl
theorem d_48_8 {B : zeB} {im : Nat → Nat → Int32} {lm : Nat → Nat → Int64} (l1 : Int32) (l2 : Int32) (o3 : Option Value)  : zeRun 48 8 [some (.ref 170), some (.int l1), some (.int l2), o3] [] (zk B im lm) = zeBh 48 15 [some (.ref 170), some (.int l1), some (.int l2), o3] [] (zeRun 32 0 [some (.int l2), some (.int 0), some (.int 24)] [] (zk B im lm)) := ze_call (ok := true) rfl 4 rfl rfl rfl
theorem d_48_15 {B : zeB} {im : Nat → Nat → Int32} {lm : Nat → Nat → Int64} (l1 : Int32) (l2 : Int32) (o3 : Option Value) (s0 : Int32)  : zeRun 48 15 [some (.ref 170), some (.int l1), some (.int l2), o3] [.int s0] (zk B im lm) = if s0 = 0 then zeRun 48 18 [some (.ref 170), some (.int l1), some (.int l2), o3] [] (zk B im lm) else zeRun 48 21 [some (.ref 170), some (.int l1), some (.int l2), o3] [] (zk B im lm) := ze_if (ok := true) rfl 1 rfl rfl
theorem d_48_18 {B : zeB} {im : Nat → Nat → Int32} {lm : Nat → Nat → Int64} (o0 : Option Value) (o1 : Option Value) (o2 : Option Value) (o3 : Option Value)  : zeRun 48 18 [o0, o1, o2, o3] [] (zk B im lm) = some (some (.int (-10000001)), (zk B im lm)) := ze_ret (ok := true) rfl 2 rfl rfl
theorem d_48_21 {B : zeB} {im : Nat → Nat → Int32} {lm : Nat → Nat → Int64} (l1 : Int32) (l2 : Int32) (o3 : Option Value)  : zeRun 48 21 [some (.ref 170), some (.int l1), some (.int l2), o3] [] (zk B im lm) = zeBh 48 25 [some (.ref 170), some (.int l1), some (.int l2), o3] [] (zeRun 47 0 [some (.ref 170), none, none, none, none, none, none] [] (zk B im lm)) := ze_call (ok := true) rfl 2 rfl rfl rfl
theorem d_48_25 {B : zeB} {im : Nat → Nat → Int32} {lm : Nat → Nat → Int64} (l1 : Int32) (l2 : Int32) (o3 : Option Value)  : zeRun 48 25 [some (.ref 170), some (.int l1), some (.int l2), o3] [] (zk B im lm) = if (im 171 0) = 0 then zeRun 48 38 [some (.ref 170), some (.int l1), some (.int l2), o3] [] (zk B im lm) else zeRun 48 34 [some (.ref 170), some (.int l1), some (.int l2), o3] [] (zk B im lm) := ze_if (ok := true) rfl 5 rfl rfl
theorem d_48_38 {B : zeB} {im : Nat → Nat → Int32} {lm : Nat → Nat → Int64} (l1 : Int32) (l2 : Int32) (o3 : Option Value)  : zeRun 48 38 [some (.ref 170), some (.int l1), some (.int l2), o3] [] (zk B im lm) = if l1 = (im 170 13) then zeRun 48 50 [some (.ref 170), some (.int l1), some (.int l2), o3] [] (zk B im lm) else zeRun 48 46 [some (.ref 170), some (.int l1), some (.int l2), o3] [] (zk B im lm) := ze_if (ok := true) rfl 4 rfl rfl
theorem d_48_50 {B : zeB} {im : Nat → Nat → Int32} {lm : Nat → Nat → Int64} (o1 : Option Value) (l2 : Int32) (o3 : Option Value)  : zeRun 48 50 [some (.ref 170), o1, some (.int l2), o3] [] (zk B im lm) = if (((im 171 10) >>> (l2 &&& 31)) &&& 1) = 1 then zeRun 48 65 [some (.ref 170), o1, some (.int l2), o3] [] (zk B im lm) else zeRun 48 69 [some (.ref 170), o1, some (.int l2), o3] [] (zk B im lm) := ze_if (ok := true) rfl 10 rfl rfl
theorem d_48_65 {B : zeB} {im : Nat → Nat → Int32} {lm : Nat → Nat → Int64} (o1 : Option Value) (o2 : Option Value) (o3 : Option Value)  : zeRun 48 65 [some (.ref 170), o1, o2, o3] [] (zk B im lm) = zeRun 48 70 [some (.ref 170), o1, o2, o3] [.int 3] (zk B im lm) := ze_go (ok := true) rfl 2 rfl rfl
theorem d_48_69 {B : zeB} {im : Nat → Nat → Int32} {lm : Nat → Nat → Int64} (o1 : Option Value) (o2 : Option Value) (o3 : Option Value)  : zeRun 48 69 [some (.ref 170), o1, o2, o3] [] (zk B im lm) = zeRun 48 70 [some (.ref 170), o1, o2, o3] [.int 0] (zk B im lm) := ze_go (ok := true) rfl 1 rfl rfl
theorem d_48_46 {B : zeB} {im : Nat → Nat → Int32} {lm : Nat → Nat → Int64} (o1 : Option Value) (o2 : Option Value) (o3 : Option Value)  : zeRun 48 46 [some (.ref 170), o1, o2, o3] [] (zk B im lm) = zeRun 48 70 [some (.ref 170), o1, o2, o3] [.int 2] (zk B im lm) := ze_go (ok := true) rfl 2 rfl rfl
theorem d_48_34 {B : zeB} {im : Nat → Nat → Int32} {lm : Nat → Nat → Int64} (o1 : Option Value) (o2 : Option Value) (o3 : Option Value)  : zeRun 48 34 [some (.ref 170), o1, o2, o3] [] (zk B im lm) = zeRun 48 70 [some (.ref 170), o1, o2, o3] [.int 1] (zk B im lm) := ze_go (ok := true) rfl 2 rfl rfl
theorem d_48_70 {B : zeB} {im : Nat → Nat → Int32} {lm : Nat → Nat → Int64} (o1 : Option Value) (o2 : Option Value) (o3 : Option Value) (s0 : Int32)  : zeRun 48 70 [some (.ref 170), o1, o2, o3] [.int s0] (zk B im lm) = if s0 ≤ 0 then zeRun 48 83 [some (.ref 170), o1, o2, some (.int s0)] [] (zk B im lm) else zeRun 48 75 [some (.ref 170), o1, o2, some (.int s0)] [] (zk B im lm) := ze_if (ok := true) rfl 3 rfl rfl
theorem d_48_83 {B : zeB} {im : Nat → Nat → Int32} {lm : Nat → Nat → Int64} (o0 : Option Value) (o1 : Option Value) (o2 : Option Value) (o3 : Option Value)  : zeRun 48 83 [o0, o1, o2, o3] [] (zk B im lm) = some (some (.int 0), (zk B im lm)) := ze_ret (ok := true) rfl 2 rfl rfl
theorem d_48_75 {B : zeB} {im : Nat → Nat → Int32} {lm : Nat → Nat → Int64} (o1 : Option Value) (o2 : Option Value) (l3 : Int32)  : zeRun 48 75 [some (.ref 170), o1, o2, some (.int l3)] [] (zk B im lm) = zeBh 48 80 [some (.ref 170), o1, o2, some (.int l3)] [] (zeRun 24 0 [some (.ref 170), some (.int l3)] [] (zk B im lm)) := ze_call (ok := true) rfl 3 rfl rfl rfl
theorem d_48_80 {B : zeB} {im : Nat → Nat → Int32} {lm : Nat → Nat → Int64} (o0 : Option Value) (o1 : Option Value) (o2 : Option Value) (o3 : Option Value) (s0 : Int32)  : zeRun 48 80 [o0, o1, o2, o3] [.int s0] (zk B im lm) = some (some (.int s0), (zk B im lm)) := ze_ret (ok := true) rfl 2 rfl rfl
def J_48_70  (s0 : Int32) (im : zI) (lm : zJ) : zR :=
    if s0 ≤ 0 then
      some (0, im, lm)
    else
      zBd (m_24 s0 im lm) fun v1 im1 lm1 =>
      some (v1, im1, lm1)
theorem J_48_70_ok {B : zeB} (s0 : Int32) (o1 : Option Value) (o2 : Option Value) (o3 : Option Value) (im : zI) (lm : zJ) : zL B 1 (J_48_70  s0 im lm) (zeRun 48 70 [some (.ref 170), o1, o2, o3] [.int s0] (zk B im lm)) := by
  unfold J_48_70
  refine zL_if (d_48_70 _ _ _ _) (fun h => ?_) (fun h => ?_)
  · skip
    exact zL_ret (d_48_83 _ _ _ _)
  · skip
    refine zL_bd (d_48_75 _ _ _) (m_24_ok _ _ _) fun v1 im1 lm1 => ?_
    exact zL_ret (d_48_80 _ _ _ _ _)
def m_48 (l1 : Int32) (l2 : Int32) (im : zI) (lm : zJ) : zR :=
    if (if (if l1 < 0 then 0 else if ((im 171 1) - 1) < l1 then 0 else 1 : Int32) = 0 then 1 else 0 : Int32) = 0 then
      if (if l2 < 0 then 0 else if 24 < l2 then 0 else 1 : Int32) = 0 then
        some ((-10000001), im, lm)
      else
        zBd (m_47  im lm) fun _ im3 lm3 =>
        J_48_70   (if (im3 171 0) = 0 then if l1 = (im3 170 13) then if (((im3 171 10) >>> (l2 &&& 31)) &&& 1) = 1 then 3 else 0 else 2 else 1) im3 lm3
    else
      some ((-10000001), im, lm)
theorem m_48_ok {B : zeB} (l1 : Int32) (l2 : Int32) (im : zI) (lm : zJ) : zL B 1 (m_48 l1 l2 im lm) (zeRun 48 0 [some (.ref 170), some (.int l1), some (.int l2), none] [] (zk B im lm)) := by
  unfold m_48
  refine zL_bdp (e := (if (if l1 < 0 then 0 else if ((im 171 1) - 1) < l1 then 0 else 1 : Int32) = 0 then 1 else 0 : Int32)) (d_48_0 _ _ _) (m_44_ok _ _ _) ?_
  refine zL_if (d_48_5 _ _ _ _) (fun h => ?_) (fun h => ?_)
  · skip
    refine zL_bdp (e := (if l2 < 0 then 0 else if 24 < l2 then 0 else 1 : Int32)) (d_48_8 _ _ _) (m_32_ok _ _ _ _ _) ?_
    refine zL_if (d_48_15 _ _ _ _) (fun h => ?_) (fun h => ?_)
    · skip
      exact zL_ret (d_48_18 _ _ _ _)
    · skip
      refine zL_bdv (d_48_21 _ _ _) (m_47_ok _ _) fun _ im3 lm3 => ?_
      refine zL_ifm (d_48_25 _ _ _) (fun h => ?_) (fun h => ?_)
      · repeat rw [if_pos h]
        refine zL_ifm (d_48_38 _ _ _) (fun h => ?_) (fun h => ?_)
        · repeat rw [if_pos h]
          refine zL_ifm (d_48_50 _ _ _) (fun h => ?_) (fun h => ?_)
          · repeat rw [if_pos h]
            refine zL_eq (d_48_65 _ _ _) ?_
            exact J_48_70_ok   _ _ _ _ _ _
          · repeat rw [if_neg h]
            refine zL_eq (d_48_69 _ _ _) ?_
            exact J_48_70_ok   _ _ _ _ _ _
        · repeat rw [if_neg h]
          refine zL_eq (d_48_46 _ _ _) ?_
          exact J_48_70_ok   _ _ _ _ _ _
      · repeat rw [if_neg h]
        refine zL_eq (d_48_34 _ _ _) ?_
        exact J_48_70_ok   _ _ _ _ _ _
  · skip
    exact zL_ret (d_48_18 _ _ _ _)
/-! X8_value -/
theorem d_49_0 {B : zeB} {im : Nat → Nat → Int32} {lm : Nat → Nat → Int64} (l0 : Int32)  : zeRun 49 0 [some (.int l0)] [] (zk B im lm) = some (some (.int (100 * ((l0 / 5) + 1))), (zk B im lm)) := ze_ret (ok := true) rfl 8 rfl rfl
def m_49 (l0 : Int32) (im : zI) (lm : zJ) : zR :=
    some ((100 * ((l0 / 5) + 1)), im, lm)
theorem m_49_ok {B : zeB} (l0 : Int32) (im : zI) (lm : zJ) : zL B 1 (m_49 l0 im lm) (zeRun 49 0 [some (.int l0)] [] (zk B im lm)) := by
  unfold m_49
  exact zL_ret (d_49_0 _)
