/-! pure: X8_readAll, X8_check, X8_does -/
/-! X8_readAll -/
theorem d_140_0 {B : zeB} {im : Nat → Nat → Int32} {lm : Nat → Nat → Int64} (o1 : Option Value) (o2 : Option Value) (o3 : Option Value) (o4 : Option Value) (o5 : Option Value) (o6 : Option Value) (o7 : Option Value) (o8 : Option Value)  : zeRun 140 0 [some (.ref 170), o1, o2, o3, o4, o5, o6, o7, o8] [] (zk B im lm) = zeRun 140 7 [some (.ref 170), some (.int 0), o2, o3, o4, o5, o6, o7, o8] [] (zk B (zeU2 im 170 18 0) lm) := ze_go (ok := true) rfl 5 rfl rfl
theorem d_140_7 {B : zeB} {im : Nat → Nat → Int32} {lm : Nat → Nat → Int64} (l1 : Int32) (o2 : Option Value) (o3 : Option Value) (o4 : Option Value) (o5 : Option Value) (o6 : Option Value) (o7 : Option Value) (o8 : Option Value)  : zeRun 140 7 [some (.ref 170), some (.int l1), o2, o3, o4, o5, o6, o7, o8] [] (zk B im lm) = if (im 170 16) ≤ l1 then zeRun 140 250 [some (.ref 170), some (.int l1), o2, o3, o4, o5, o6, o7, o8] [] (zk B im lm) else zeRun 140 15 [some (.ref 170), some (.int l1), o2, o3, o4, o5, o6, o7, o8] [] (zk B im lm) := ze_if (ok := true) rfl 4 rfl rfl
theorem d_140_250 {B : zeB} {im : Nat → Nat → Int32} {lm : Nat → Nat → Int64} (o1 : Option Value) (o2 : Option Value) (o3 : Option Value) (o4 : Option Value) (o5 : Option Value) (o6 : Option Value) (o7 : Option Value) (o8 : Option Value)  : zeRun 140 250 [some (.ref 170), o1, o2, o3, o4, o5, o6, o7, o8] [] (zk B im lm) = if (im 170 18) = 0 then zeRun 140 257 [some (.ref 170), o1, o2, o3, o4, o5, o6, o7, o8] [] (zk B im lm) else zeRun 140 261 [some (.ref 170), o1, o2, o3, o4, o5, o6, o7, o8] [] (zk B im lm) := ze_if (ok := true) rfl 3 rfl rfl
theorem d_140_257 {B : zeB} {im : Nat → Nat → Int32} {lm : Nat → Nat → Int64} (o0 : Option Value) (o1 : Option Value) (o2 : Option Value) (o3 : Option Value) (o4 : Option Value) (o5 : Option Value) (o6 : Option Value) (o7 : Option Value) (o8 : Option Value)  : zeRun 140 257 [o0, o1, o2, o3, o4, o5, o6, o7, o8] [] (zk B im lm) = some (some (.int 0), (zk B im lm)) := ze_ret (ok := true) rfl 3 rfl rfl
theorem d_140_261 {B : zeB} {im : Nat → Nat → Int32} {lm : Nat → Nat → Int64} (o0 : Option Value) (o1 : Option Value) (o2 : Option Value) (o3 : Option Value) (o4 : Option Value) (o5 : Option Value) (o6 : Option Value) (o7 : Option Value) (o8 : Option Value)  : zeRun 140 261 [o0, o1, o2, o3, o4, o5, o6, o7, o8] [] (zk B im lm) = some (some (.int (-1)), (zk B im lm)) := ze_ret (ok := true) rfl 2 rfl rfl
theorem d_140_15 {B : zeB} {im : Nat → Nat → Int32} {lm : Nat → Nat → Int64} (l1 : Int32) (o2 : Option Value) (o3 : Option Value) (o4 : Option Value) (o5 : Option Value) (o6 : Option Value) (o7 : Option Value) (o8 : Option Value) (c0 : zeInb l1 70 = true) (c1 : zeInb (3 * (im 170 18)) 210 = true) : zeRun 140 15 [some (.ref 170), some (.int l1), o2, o3, o4, o5, o6, o7, o8] [] (zk B im lm) = if (im 184 (Int32.toNatClampNeg l1)) = 112 then zeRun 140 45 [some (.ref 170), some (.int (l1 + 1)), some (.int (im 184 (Int32.toNatClampNeg l1))), some (.int (3 * (im 170 18))), o4, o5, o6, o7, o8] [] (zk B (zeU2 im 185 (Int32.toNatClampNeg (3 * (im 170 18))) (im 184 (Int32.toNatClampNeg l1))) lm) else zeRun 140 49 [some (.ref 170), some (.int (l1 + 1)), some (.int (im 184 (Int32.toNatClampNeg l1))), some (.int (3 * (im 170 18))), o4, o5, o6, o7, o8] [] (zk B (zeU2 im 185 (Int32.toNatClampNeg (3 * (im 170 18))) (im 184 (Int32.toNatClampNeg l1))) lm) := ze_if (ok := (zeInb (3 * (im 170 18)) 210 && (zeInb l1 70 && true))) rfl 19 rfl (zeA2 c1 (zeA2 c0 rfl))
theorem d_140_45 {B : zeB} {im : Nat → Nat → Int32} {lm : Nat → Nat → Int64} (l1 : Int32) (l2 : Int32) (l3 : Int32) (o4 : Option Value) (o5 : Option Value) (o6 : Option Value) (o7 : Option Value) (o8 : Option Value)  : zeRun 140 45 [some (.ref 170), some (.int l1), some (.int l2), some (.int l3), o4, o5, o6, o7, o8] [] (zk B im lm) = zeRun 140 70 [some (.ref 170), some (.int l1), some (.int l2), some (.int l3), o4, o5, o6, o7, o8] [.int 2] (zk B im lm) := ze_go (ok := true) rfl 2 rfl rfl
theorem d_140_49 {B : zeB} {im : Nat → Nat → Int32} {lm : Nat → Nat → Int64} (l1 : Int32) (l2 : Int32) (l3 : Int32) (o4 : Option Value) (o5 : Option Value) (o6 : Option Value) (o7 : Option Value) (o8 : Option Value)  : zeRun 140 49 [some (.ref 170), some (.int l1), some (.int l2), some (.int l3), o4, o5, o6, o7, o8] [] (zk B im lm) = if l2 = 98 then zeRun 140 55 [some (.ref 170), some (.int l1), some (.int l2), some (.int l3), o4, o5, o6, o7, o8] [] (zk B im lm) else zeRun 140 59 [some (.ref 170), some (.int l1), some (.int l2), some (.int l3), o4, o5, o6, o7, o8] [] (zk B im lm) := ze_if (ok := true) rfl 3 rfl rfl
theorem d_140_55 {B : zeB} {im : Nat → Nat → Int32} {lm : Nat → Nat → Int64} (l1 : Int32) (l2 : Int32) (l3 : Int32) (o4 : Option Value) (o5 : Option Value) (o6 : Option Value) (o7 : Option Value) (o8 : Option Value)  : zeRun 140 55 [some (.ref 170), some (.int l1), some (.int l2), some (.int l3), o4, o5, o6, o7, o8] [] (zk B im lm) = zeRun 140 70 [some (.ref 170), some (.int l1), some (.int l2), some (.int l3), o4, o5, o6, o7, o8] [.int 3] (zk B im lm) := ze_go (ok := true) rfl 2 rfl rfl
theorem d_140_59 {B : zeB} {im : Nat → Nat → Int32} {lm : Nat → Nat → Int64} (l1 : Int32) (l2 : Int32) (l3 : Int32) (o4 : Option Value) (o5 : Option Value) (o6 : Option Value) (o7 : Option Value) (o8 : Option Value)  : zeRun 140 59 [some (.ref 170), some (.int l1), some (.int l2), some (.int l3), o4, o5, o6, o7, o8] [] (zk B im lm) = if l2 = 119 then zeRun 140 65 [some (.ref 170), some (.int l1), some (.int l2), some (.int l3), o4, o5, o6, o7, o8] [] (zk B im lm) else zeRun 140 69 [some (.ref 170), some (.int l1), some (.int l2), some (.int l3), o4, o5, o6, o7, o8] [] (zk B im lm) := ze_if (ok := true) rfl 3 rfl rfl
theorem d_140_65 {B : zeB} {im : Nat → Nat → Int32} {lm : Nat → Nat → Int64} (l1 : Int32) (l2 : Int32) (l3 : Int32) (o4 : Option Value) (o5 : Option Value) (o6 : Option Value) (o7 : Option Value) (o8 : Option Value)  : zeRun 140 65 [some (.ref 170), some (.int l1), some (.int l2), some (.int l3), o4, o5, o6, o7, o8] [] (zk B im lm) = zeRun 140 70 [some (.ref 170), some (.int l1), some (.int l2), some (.int l3), o4, o5, o6, o7, o8] [.int 4] (zk B im lm) := ze_go (ok := true) rfl 2 rfl rfl
theorem d_140_69 {B : zeB} {im : Nat → Nat → Int32} {lm : Nat → Nat → Int64} (l1 : Int32) (l2 : Int32) (l3 : Int32) (o4 : Option Value) (o5 : Option Value) (o6 : Option Value) (o7 : Option Value) (o8 : Option Value)  : zeRun 140 69 [some (.ref 170), some (.int l1), some (.int l2), some (.int l3), o4, o5, o6, o7, o8] [] (zk B im lm) = zeRun 140 70 [some (.ref 170), some (.int l1), some (.int l2), some (.int l3), o4, o5, o6, o7, o8] [.int 0] (zk B im lm) := ze_go (ok := true) rfl 1 rfl rfl
theorem d_140_70 {B : zeB} {im : Nat → Nat → Int32} {lm : Nat → Nat → Int64} (l1 : Int32) (l2 : Int32) (l3 : Int32) (o4 : Option Value) (o5 : Option Value) (o6 : Option Value) (o7 : Option Value) (o8 : Option Value) (s0 : Int32)  : zeRun 140 70 [some (.ref 170), some (.int l1), some (.int l2), some (.int l3), o4, o5, o6, o7, o8] [.int s0] (zk B im lm) = if s0 = 0 then zeRun 140 77 [some (.ref 170), some (.int l1), some (.int l2), some (.int l3), some (.int s0), o5, o6, o7, o8] [] (zk B im lm) else zeRun 140 99 [some (.ref 170), some (.int l1), some (.int l2), some (.int l3), some (.int s0), o5, o6, o7, o8] [] (zk B im lm) := ze_if (ok := true) rfl 3 rfl rfl
theorem d_140_77 {B : zeB} {im : Nat → Nat → Int32} {lm : Nat → Nat → Int64} (l1 : Int32) (l2 : Int32) (l3 : Int32) (l4 : Int32) (o5 : Option Value) (o6 : Option Value) (o7 : Option Value) (o8 : Option Value)  : zeRun 140 77 [some (.ref 170), some (.int l1), some (.int l2), some (.int l3), some (.int l4), o5, o6, o7, o8] [] (zk B im lm) = if l2 = 43 then zeRun 140 99 [some (.ref 170), some (.int l1), some (.int l2), some (.int l3), some (.int l4), o5, o6, o7, o8] [] (zk B im lm) else zeRun 140 83 [some (.ref 170), some (.int l1), some (.int l2), some (.int l3), some (.int l4), o5, o6, o7, o8] [] (zk B im lm) := ze_if (ok := true) rfl 3 rfl rfl
theorem d_140_99 {B : zeB} {im : Nat → Nat → Int32} {lm : Nat → Nat → Int64} (l1 : Int32) (l2 : Int32) (l3 : Int32) (l4 : Int32) (o5 : Option Value) (o6 : Option Value) (o7 : Option Value) (o8 : Option Value)  : zeRun 140 99 [some (.ref 170), some (.int l1), some (.int l2), some (.int l3), some (.int l4), o5, o6, o7, o8] [] (zk B im lm) = zeRun 140 105 [some (.ref 170), some (.int l1), some (.int l2), some (.int l3), some (.int l4), some (.int 0), some (.int 0), o7, o8] [] (zk B im lm) := ze_go (ok := true) rfl 4 rfl rfl
theorem d_140_83 {B : zeB} {im : Nat → Nat → Int32} {lm : Nat → Nat → Int64} (l1 : Int32) (l2 : Int32) (l3 : Int32) (l4 : Int32) (o5 : Option Value) (o6 : Option Value) (o7 : Option Value) (o8 : Option Value)  : zeRun 140 83 [some (.ref 170), some (.int l1), some (.int l2), some (.int l3), some (.int l4), o5, o6, o7, o8] [] (zk B im lm) = if l2 = 45 then zeRun 140 99 [some (.ref 170), some (.int l1), some (.int l2), some (.int l3), some (.int l4), o5, o6, o7, o8] [] (zk B im lm) else zeRun 140 89 [some (.ref 170), some (.int l1), some (.int l2), some (.int l3), some (.int l4), o5, o6, o7, o8] [] (zk B im lm) := ze_if (ok := true) rfl 3 rfl rfl
theorem d_140_89 {B : zeB} {im : Nat → Nat → Int32} {lm : Nat → Nat → Int64} (l1 : Int32) (l2 : Int32) (l3 : Int32) (l4 : Int32) (o5 : Option Value) (o6 : Option Value) (o7 : Option Value) (o8 : Option Value)  : zeRun 140 89 [some (.ref 170), some (.int l1), some (.int l2), some (.int l3), some (.int l4), o5, o6, o7, o8] [] (zk B im lm) = if l2 = 110 then zeRun 140 99 [some (.ref 170), some (.int l1), some (.int l2), some (.int l3), some (.int l4), o5, o6, o7, o8] [] (zk B im lm) else zeRun 140 95 [some (.ref 170), some (.int l1), some (.int l2), some (.int l3), some (.int l4), o5, o6, o7, o8] [] (zk B im lm) := ze_if (ok := true) rfl 3 rfl rfl
theorem d_140_95 {B : zeB} {im : Nat → Nat → Int32} {lm : Nat → Nat → Int64} (o0 : Option Value) (l1 : Int32) (o2 : Option Value) (o3 : Option Value) (o4 : Option Value) (o5 : Option Value) (o6 : Option Value) (o7 : Option Value) (o8 : Option Value)  : zeRun 140 95 [o0, some (.int l1), o2, o3, o4, o5, o6, o7, o8] [] (zk B im lm) = some (some (.int (l1 - 1)), (zk B im lm)) := ze_ret (ok := true) rfl 4 rfl rfl
theorem d_140_105 {B : zeB} {im : Nat → Nat → Int32} {lm : Nat → Nat → Int64} (l1 : Int32) (l2 : Int32) (l3 : Int32) (l4 : Int32) (l5 : Int32) (l6 : Int32) (o7 : Option Value) (o8 : Option Value)  : zeRun 140 105 [some (.ref 170), some (.int l1), some (.int l2), some (.int l3), some (.int l4), some (.int l5), some (.int l6), o7, o8] [] (zk B im lm) = if l4 ≤ l6 then zeRun 140 200 [some (.ref 170), some (.int l1), some (.int l2), some (.int l3), some (.int l4), some (.int l5), some (.int l6), o7, o8] [] (zk B im lm) else zeRun 140 112 [some (.ref 170), some (.int l1), some (.int l2), some (.int l3), some (.int l4), some (.int l5), some (.int l6), o7, o8] [] (zk B im lm) := ze_if (ok := true) rfl 3 rfl rfl
theorem d_140_200 {B : zeB} {im : Nat → Nat → Int32} {lm : Nat → Nat → Int64} (l1 : Int32) (l2 : Int32) (l3 : Int32) (o4 : Option Value) (l5 : Int32) (o6 : Option Value) (o7 : Option Value) (o8 : Option Value)  : zeRun 140 200 [some (.ref 170), some (.int l1), some (.int l2), some (.int l3), o4, some (.int l5), o6, o7, o8] [] (zk B im lm) = if l2 = 98 then zeRun 140 213 [some (.ref 170), some (.int l1), some (.int l2), some (.int l3), o4, some (.int l5), o6, o7, o8] [.int (l3 + 1), .ref 185] (zk B im lm) else zeRun 140 221 [some (.ref 170), some (.int l1), some (.int l2), some (.int l3), o4, some (.int l5), o6, o7, o8] [.int (l3 + 1), .ref 185] (zk B im lm) := ze_if (ok := true) rfl 8 rfl rfl
theorem d_140_213 {B : zeB} {im : Nat → Nat → Int32} {lm : Nat → Nat → Int64} (l1 : Int32) (o2 : Option Value) (l3 : Int32) (o4 : Option Value) (l5 : Int32) (o6 : Option Value) (o7 : Option Value) (o8 : Option Value) (s1 : Int32)  : zeRun 140 213 [some (.ref 170), some (.int l1), o2, some (.int l3), o4, some (.int l5), o6, o7, o8] [.int s1, .ref 185] (zk B im lm) = zeRun 140 223 [some (.ref 170), some (.int l1), o2, some (.int l3), o4, some (.int l5), o6, o7, o8] [.int (l5 / 100), .int s1, .ref 185] (zk B im lm) := ze_go (ok := true) rfl 4 rfl rfl
theorem d_140_221 {B : zeB} {im : Nat → Nat → Int32} {lm : Nat → Nat → Int64} (l1 : Int32) (o2 : Option Value) (l3 : Int32) (o4 : Option Value) (l5 : Int32) (o6 : Option Value) (o7 : Option Value) (o8 : Option Value) (s1 : Int32)  : zeRun 140 221 [some (.ref 170), some (.int l1), o2, some (.int l3), o4, some (.int l5), o6, o7, o8] [.int s1, .ref 185] (zk B im lm) = zeRun 140 223 [some (.ref 170), some (.int l1), o2, some (.int l3), o4, some (.int l5), o6, o7, o8] [.int l5, .int s1, .ref 185] (zk B im lm) := ze_go (ok := true) rfl 1 rfl rfl
theorem d_140_112 {B : zeB} {im : Nat → Nat → Int32} {lm : Nat → Nat → Int64} (l1 : Int32) (l2 : Int32) (l3 : Int32) (l4 : Int32) (l5 : Int32) (l6 : Int32) (o7 : Option Value) (o8 : Option Value)  : zeRun 140 112 [some (.ref 170), some (.int l1), some (.int l2), some (.int l3), some (.int l4), some (.int l5), some (.int l6), o7, o8] [] (zk B im lm) = zeBh 140 117 [some (.ref 170), some (.int l1), some (.int l2), some (.int l3), some (.int l4), some (.int l5), some (.int l6), o7, o8] [] (zeRun 139 0 [some (.ref 170), some (.int l1)] [] (zk B im lm)) := ze_call (ok := true) rfl 3 rfl rfl rfl
theorem d_140_117 {B : zeB} {im : Nat → Nat → Int32} {lm : Nat → Nat → Int64} (l1 : Int32) (l2 : Int32) (l3 : Int32) (l4 : Int32) (l5 : Int32) (l6 : Int32) (o7 : Option Value) (o8 : Option Value) (s0 : Int32)  : zeRun 140 117 [some (.ref 170), some (.int l1), some (.int l2), some (.int l3), some (.int l4), some (.int l5), some (.int l6), o7, o8] [.int s0] (zk B im lm) = if l2 = 112 then zeRun 140 125 [some (.ref 170), some (.int l1), some (.int l2), some (.int l3), some (.int l4), some (.int l5), some (.int l6), some (.int s0), o8] [] (zk B im lm) else zeRun 140 149 [some (.ref 170), some (.int l1), some (.int l2), some (.int l3), some (.int l4), some (.int l5), some (.int l6), some (.int s0), o8] [] (zk B im lm) := ze_if (ok := true) rfl 4 rfl rfl
theorem d_140_125 {B : zeB} {im : Nat → Nat → Int32} {lm : Nat → Nat → Int64} (l1 : Int32) (l2 : Int32) (l3 : Int32) (l4 : Int32) (l5 : Int32) (l6 : Int32) (l7 : Int32) (o8 : Option Value)  : zeRun 140 125 [some (.ref 170), some (.int l1), some (.int l2), some (.int l3), some (.int l4), some (.int l5), some (.int l6), some (.int l7), o8] [] (zk B im lm) = if l6 = 0 then zeRun 140 130 [some (.ref 170), some (.int l1), some (.int l2), some (.int l3), some (.int l4), some (.int l5), some (.int l6), some (.int l7), o8] [] (zk B im lm) else zeRun 140 134 [some (.ref 170), some (.int l1), some (.int l2), some (.int l3), some (.int l4), some (.int l5), some (.int l6), some (.int l7), o8] [] (zk B im lm) := ze_if (ok := true) rfl 2 rfl rfl
theorem d_140_130 {B : zeB} {im : Nat → Nat → Int32} {lm : Nat → Nat → Int64} (l1 : Int32) (l2 : Int32) (l3 : Int32) (l4 : Int32) (l5 : Int32) (l6 : Int32) (l7 : Int32) (o8 : Option Value)  : zeRun 140 130 [some (.ref 170), some (.int l1), some (.int l2), some (.int l3), some (.int l4), some (.int l5), some (.int l6), some (.int l7), o8] [] (zk B im lm) = zeRun 140 166 [some (.ref 170), some (.int l1), some (.int l2), some (.int l3), some (.int l4), some (.int l5), some (.int l6), some (.int l7), o8] [.int 2] (zk B im lm) := ze_go (ok := true) rfl 2 rfl rfl
theorem d_140_134 {B : zeB} {im : Nat → Nat → Int32} {lm : Nat → Nat → Int64} (l1 : Int32) (l2 : Int32) (l3 : Int32) (l4 : Int32) (l5 : Int32) (l6 : Int32) (l7 : Int32) (o8 : Option Value)  : zeRun 140 134 [some (.ref 170), some (.int l1), some (.int l2), some (.int l3), some (.int l4), some (.int l5), some (.int l6), some (.int l7), o8] [] (zk B im lm) = if l5 = 2 then zeRun 140 140 [some (.ref 170), some (.int l1), some (.int l2), some (.int l3), some (.int l4), some (.int l5), some (.int l6), some (.int l7), o8] [] (zk B im lm) else zeRun 140 144 [some (.ref 170), some (.int l1), some (.int l2), some (.int l3), some (.int l4), some (.int l5), some (.int l6), some (.int l7), o8] [] (zk B im lm) := ze_if (ok := true) rfl 3 rfl rfl
theorem d_140_140 {B : zeB} {im : Nat → Nat → Int32} {lm : Nat → Nat → Int64} (l1 : Int32) (l2 : Int32) (l3 : Int32) (l4 : Int32) (l5 : Int32) (l6 : Int32) (l7 : Int32) (o8 : Option Value)  : zeRun 140 140 [some (.ref 170), some (.int l1), some (.int l2), some (.int l3), some (.int l4), some (.int l5), some (.int l6), some (.int l7), o8] [] (zk B im lm) = zeRun 140 166 [some (.ref 170), some (.int l1), some (.int l2), some (.int l3), some (.int l4), some (.int l5), some (.int l6), some (.int l7), o8] [.int 4] (zk B im lm) := ze_go (ok := true) rfl 2 rfl rfl
theorem d_140_144 {B : zeB} {im : Nat → Nat → Int32} {lm : Nat → Nat → Int64} (l1 : Int32) (l2 : Int32) (l3 : Int32) (l4 : Int32) (l5 : Int32) (l6 : Int32) (l7 : Int32) (o8 : Option Value)  : zeRun 140 144 [some (.ref 170), some (.int l1), some (.int l2), some (.int l3), some (.int l4), some (.int l5), some (.int l6), some (.int l7), o8] [] (zk B im lm) = zeRun 140 166 [some (.ref 170), some (.int l1), some (.int l2), some (.int l3), some (.int l4), some (.int l5), some (.int l6), some (.int l7), o8] [.int 9] (zk B im lm) := ze_go (ok := true) rfl 2 rfl rfl
theorem d_140_149 {B : zeB} {im : Nat → Nat → Int32} {lm : Nat → Nat → Int64} (l1 : Int32) (l2 : Int32) (l3 : Int32) (l4 : Int32) (l5 : Int32) (l6 : Int32) (l7 : Int32) (o8 : Option Value)  : zeRun 140 149 [some (.ref 170), some (.int l1), some (.int l2), some (.int l3), some (.int l4), some (.int l5), some (.int l6), some (.int l7), o8] [] (zk B im lm) = if l2 = 98 then zeRun 140 155 [some (.ref 170), some (.int l1), some (.int l2), some (.int l3), some (.int l4), some (.int l5), some (.int l6), some (.int l7), o8] [] (zk B im lm) else zeRun 140 164 [some (.ref 170), some (.int l1), some (.int l2), some (.int l3), some (.int l4), some (.int l5), some (.int l6), some (.int l7), o8] [] (zk B im lm) := ze_if (ok := true) rfl 3 rfl rfl
theorem d_140_155 {B : zeB} {im : Nat → Nat → Int32} {lm : Nat → Nat → Int64} (l1 : Int32) (l2 : Int32) (l3 : Int32) (l4 : Int32) (l5 : Int32) (l6 : Int32) (l7 : Int32) (o8 : Option Value)  : zeRun 140 155 [some (.ref 170), some (.int l1), some (.int l2), some (.int l3), some (.int l4), some (.int l5), some (.int l6), some (.int l7), o8] [] (zk B im lm) = if l6 = 0 then zeRun 140 160 [some (.ref 170), some (.int l1), some (.int l2), some (.int l3), some (.int l4), some (.int l5), some (.int l6), some (.int l7), o8] [] (zk B im lm) else zeRun 140 164 [some (.ref 170), some (.int l1), some (.int l2), some (.int l3), some (.int l4), some (.int l5), some (.int l6), some (.int l7), o8] [] (zk B im lm) := ze_if (ok := true) rfl 2 rfl rfl
theorem d_140_160 {B : zeB} {im : Nat → Nat → Int32} {lm : Nat → Nat → Int64} (l1 : Int32) (l2 : Int32) (l3 : Int32) (l4 : Int32) (l5 : Int32) (l6 : Int32) (l7 : Int32) (o8 : Option Value)  : zeRun 140 160 [some (.ref 170), some (.int l1), some (.int l2), some (.int l3), some (.int l4), some (.int l5), some (.int l6), some (.int l7), o8] [] (zk B im lm) = zeRun 140 166 [some (.ref 170), some (.int l1), some (.int l2), some (.int l3), some (.int l4), some (.int l5), some (.int l6), some (.int l7), o8] [.int 5] (zk B im lm) := ze_go (ok := true) rfl 2 rfl rfl
theorem d_140_164 {B : zeB} {im : Nat → Nat → Int32} {lm : Nat → Nat → Int64} (l1 : Int32) (l2 : Int32) (l3 : Int32) (l4 : Int32) (l5 : Int32) (l6 : Int32) (l7 : Int32) (o8 : Option Value)  : zeRun 140 164 [some (.ref 170), some (.int l1), some (.int l2), some (.int l3), some (.int l4), some (.int l5), some (.int l6), some (.int l7), o8] [] (zk B im lm) = zeRun 140 166 [some (.ref 170), some (.int l1), some (.int l2), some (.int l3), some (.int l4), some (.int l5), some (.int l6), some (.int l7), o8] [.int 9] (zk B im lm) := ze_go (ok := true) rfl 1 rfl rfl
theorem d_140_166 {B : zeB} {im : Nat → Nat → Int32} {lm : Nat → Nat → Int64} (l1 : Int32) (l2 : Int32) (l3 : Int32) (l4 : Int32) (l5 : Int32) (l6 : Int32) (l7 : Int32) (o8 : Option Value) (s0 : Int32)  : zeRun 140 166 [some (.ref 170), some (.int l1), some (.int l2), some (.int l3), some (.int l4), some (.int l5), some (.int l6), some (.int l7), o8] [.int s0] (zk B im lm) = zeBh 140 176 [some (.ref 170), some (.int l1), some (.int l2), some (.int l3), some (.int l4), some (.int l5), some (.int l6), some (.int l7), some (.int s0)] [] (zeRun 32 0 [some (.int l7), some (.int 0), some (.int s0)] [] (zk B im lm)) := ze_call (ok := true) rfl 5 rfl rfl rfl
theorem d_140_176 {B : zeB} {im : Nat → Nat → Int32} {lm : Nat → Nat → Int64} (l1 : Int32) (l2 : Int32) (l3 : Int32) (l4 : Int32) (l5 : Int32) (l6 : Int32) (l7 : Int32) (o8 : Option Value) (s0 : Int32)  : zeRun 140 176 [some (.ref 170), some (.int l1), some (.int l2), some (.int l3), some (.int l4), some (.int l5), some (.int l6), some (.int l7), o8] [.int s0] (zk B im lm) = if s0 = 0 then zeRun 140 179 [some (.ref 170), some (.int l1), some (.int l2), some (.int l3), some (.int l4), some (.int l5), some (.int l6), some (.int l7), o8] [] (zk B im lm) else zeRun 140 181 [some (.ref 170), some (.int l1), some (.int l2), some (.int l3), some (.int l4), some (.int l5), some (.int l6), some (.int l7), o8] [] (zk B im lm) := ze_if (ok := true) rfl 1 rfl rfl
theorem d_140_179 {B : zeB} {im : Nat → Nat → Int32} {lm : Nat → Nat → Int64} (o0 : Option Value) (l1 : Int32) (o2 : Option Value) (o3 : Option Value) (o4 : Option Value) (o5 : Option Value) (o6 : Option Value) (o7 : Option Value) (o8 : Option Value)  : zeRun 140 179 [o0, some (.int l1), o2, o3, o4, o5, o6, o7, o8] [] (zk B im lm) = some (some (.int l1), (zk B im lm)) := ze_ret (ok := true) rfl 2 rfl rfl
theorem d_140_181 {B : zeB} {im : Nat → Nat → Int32} {lm : Nat → Nat → Int64} (l1 : Int32) (l2 : Int32) (l3 : Int32) (l4 : Int32) (l5 : Int32) (l6 : Int32) (l7 : Int32) (o8 : Option Value)  : zeRun 140 181 [some (.ref 170), some (.int l1), some (.int l2), some (.int l3), some (.int l4), some (.int l5), some (.int l6), some (.int l7), o8] [] (zk B im lm) = zeRun 140 105 [some (.ref 170), some (.int (l1 + 1)), some (.int l2), some (.int l3), some (.int l4), some (.int ((10 * l5) + l7)), some (.int (l6 + 1)), some (.int l7), o8] [] (zk B im lm) := ze_go (ok := true) rfl 9 rfl rfl
theorem d_140_223 {B : zeB} {im : Nat → Nat → Int32} {lm : Nat → Nat → Int64} (l1 : Int32) (o2 : Option Value) (l3 : Int32) (o4 : Option Value) (l5 : Int32) (o6 : Option Value) (o7 : Option Value) (o8 : Option Value) (s1 : Int32) (s2 : Int32) (c0 : zeInb s1 210 = true) (c1 : zeInb (l3 + 2) 210 = true) : zeRun 140 223 [some (.ref 170), some (.int l1), o2, some (.int l3), o4, some (.int l5), o6, o7, o8] [.int s2, .int s1, .ref 185] (zk B im lm) = zeRun 140 7 [some (.ref 170), some (.int l1), o2, some (.int l3), o4, some (.int l5), o6, o7, o8] [] (zk B (zeU2 (zeU2 (zeU2 im 185 (Int32.toNatClampNeg s1) s2) 185 (Int32.toNatClampNeg (l3 + 2)) (zfirem l5 100)) 170 18 ((im 170 18) + 1)) lm) := ze_go (ok := (zeInb (l3 + 2) 210 && (zeInb s1 210 && true))) rfl 17 rfl (zeA2 c1 (zeA2 c0 rfl))
def J_140_223 (K7 : Int32 → zI → zJ → zR) (l1 : Int32) (l3 : Int32) (l5 : Int32) (s1 : Int32) (s2 : Int32) (im : zI) (lm : zJ) : zR :=
    zCk (zeInb s1 210) <|
    zCk (zeInb (l3 + 2) 210) <|
    K7 l1 (zeU2 (zeU2 (zeU2 im 185 (Int32.toNatClampNeg s1) s2) 185 (Int32.toNatClampNeg (l3 + 2)) (zfirem l5 100)) 170 18 ((im 170 18) + 1)) lm
theorem J_140_223_ok {B : zeB} (K7 : Int32 → zI → zJ → zR) (hK7 : ∀ (l1 : Int32) (o2 : Option Value) (o3 : Option Value) (o4 : Option Value) (o5 : Option Value) (o6 : Option Value) (o7 : Option Value) (o8 : Option Value) (im : zI) (lm : zJ), zL B 1 (K7 l1 im lm) (zeRun 140 7 [some (.ref 170), some (.int l1), o2, o3, o4, o5, o6, o7, o8] [] (zk B im lm))) (l1 : Int32) (l3 : Int32) (l5 : Int32) (s1 : Int32) (s2 : Int32) (o2 : Option Value) (o4 : Option Value) (o6 : Option Value) (o7 : Option Value) (o8 : Option Value) (im : zI) (lm : zJ) : zL B 1 (J_140_223 K7 l1 l3 l5 s1 s2 im lm) (zeRun 140 223 [some (.ref 170), some (.int l1), o2, some (.int l3), o4, some (.int l5), o6, o7, o8] [.int s2, .int s1, .ref 185] (zk B im lm)) := by
  unfold J_140_223
  refine zL_ck fun c1 => ?_
  refine zL_ck fun c2 => ?_
  refine zL_eq (d_140_223 _ _ _ _ _ _ _ _ _ _ c1 c2) ?_
  exact hK7 _ _ _ _ _ _ _ _ _ _
def J_140_166 (K7 : Int32 → zI → zJ → zR) (K105 : Int32 → Int32 → Int32 → Int32 → Int32 → Int32 → zI → zJ → zR) (l1 : Int32) (l2 : Int32) (l3 : Int32) (l4 : Int32) (l5 : Int32) (l6 : Int32) (l7 : Int32) (s0 : Int32) (im : zI) (lm : zJ) : zR :=
    if (if l7 < 0 then 0 else if s0 < l7 then 0 else 1 : Int32) = 0 then
      some (l1, im, lm)
    else
      K105 (l1 + 1) l2 l3 l4 ((10 * l5) + l7) (l6 + 1) im lm
theorem J_140_166_ok {B : zeB} (K7 : Int32 → zI → zJ → zR) (hK7 : ∀ (l1 : Int32) (o2 : Option Value) (o3 : Option Value) (o4 : Option Value) (o5 : Option Value) (o6 : Option Value) (o7 : Option Value) (o8 : Option Value) (im : zI) (lm : zJ), zL B 1 (K7 l1 im lm) (zeRun 140 7 [some (.ref 170), some (.int l1), o2, o3, o4, o5, o6, o7, o8] [] (zk B im lm))) (K105 : Int32 → Int32 → Int32 → Int32 → Int32 → Int32 → zI → zJ → zR) (hK105 : ∀ (l1 : Int32) (l2 : Int32) (l3 : Int32) (l4 : Int32) (l5 : Int32) (l6 : Int32) (o7 : Option Value) (o8 : Option Value) (im : zI) (lm : zJ), zL B 1 (K105 l1 l2 l3 l4 l5 l6 im lm) (zeRun 140 105 [some (.ref 170), some (.int l1), some (.int l2), some (.int l3), some (.int l4), some (.int l5), some (.int l6), o7, o8] [] (zk B im lm))) (l1 : Int32) (l2 : Int32) (l3 : Int32) (l4 : Int32) (l5 : Int32) (l6 : Int32) (l7 : Int32) (s0 : Int32) (o8 : Option Value) (im : zI) (lm : zJ) : zL B 1 (J_140_166 K7 K105 l1 l2 l3 l4 l5 l6 l7 s0 im lm) (zeRun 140 166 [some (.ref 170), some (.int l1), some (.int l2), some (.int l3), some (.int l4), some (.int l5), some (.int l6), some (.int l7), o8] [.int s0] (zk B im lm)) := by
  unfold J_140_166
  refine zL_bdp (e := (if l7 < 0 then 0 else if s0 < l7 then 0 else 1 : Int32)) (d_140_166 _ _ _ _ _ _ _ _ _) (m_32_ok _ _ _ _ _) ?_
  refine zL_if (d_140_176 _ _ _ _ _ _ _ _ _) (fun h => ?_) (fun h => ?_)
  · skip
    exact zL_ret (d_140_179 _ _ _ _ _ _ _ _ _)
  · skip
    refine zL_eq (d_140_181 _ _ _ _ _ _ _ _) ?_
    exact hK105 _ _ _ _ _ _ _ _ _ _
def F_140_105 (K7 : Int32 → zI → zJ → zR) : Nat → Int32 → Int32 → Int32 → Int32 → Int32 → Int32 → zI → zJ → zR
  | 0, _, _, _, _, _, _, _, _ => none
  | n + 1, l1, l2, l3, l4, l5, l6, im, lm =>
    if l4 ≤ l6 then
      J_140_223 K7  l1 l3 l5 (l3 + 1) (if l2 = 98 then (l5 / 100) else l5) im lm
    else
      zBd (m_139 l1 im lm) fun v1 im1 lm1 =>
      J_140_166 K7 (F_140_105 K7 n)  l1 l2 l3 l4 l5 l6 v1 (if l2 = 112 then if l6 = 0 then 2 else if l5 = 2 then 4 else 9 else if l2 = 98 then if l6 = 0 then 5 else 9 else 9) im1 lm1
theorem F_140_105_ok {B : zeB} (K7 : Int32 → zI → zJ → zR) (hK7 : ∀ (l1 : Int32) (o2 : Option Value) (o3 : Option Value) (o4 : Option Value) (o5 : Option Value) (o6 : Option Value) (o7 : Option Value) (o8 : Option Value) (im : zI) (lm : zJ), zL B 1 (K7 l1 im lm) (zeRun 140 7 [some (.ref 170), some (.int l1), o2, o3, o4, o5, o6, o7, o8] [] (zk B im lm))) : ∀ (n : Nat) (l1 : Int32) (l2 : Int32) (l3 : Int32) (l4 : Int32) (l5 : Int32) (l6 : Int32) (o7 : Option Value) (o8 : Option Value) (im : zI) (lm : zJ), zL B 1 (F_140_105 K7 n l1 l2 l3 l4 l5 l6 im lm) (zeRun 140 105 [some (.ref 170), some (.int l1), some (.int l2), some (.int l3), some (.int l4), some (.int l5), some (.int l6), o7, o8] [] (zk B im lm)) := by
  intro n
  induction n with
  | zero => intros; exact zL_none
  | succ n ih =>
    intro l1 l2 l3 l4 l5 l6 o7 o8 im lm
    unfold F_140_105
    refine zL_if (d_140_105 _ _ _ _ _ _ _ _) (fun h => ?_) (fun h => ?_)
    · skip
      refine zL_ifm (d_140_200 _ _ _ _ _ _ _ _) (fun h => ?_) (fun h => ?_)
      · repeat rw [if_pos h]
        refine zL_eq (d_140_213 _ _ _ _ _ _ _ _ _) ?_
        exact J_140_223_ok _ hK7  _ _ _ _ _ _ _ _ _ _ _ _
      · repeat rw [if_neg h]
        refine zL_eq (d_140_221 _ _ _ _ _ _ _ _ _) ?_
        exact J_140_223_ok _ hK7  _ _ _ _ _ _ _ _ _ _ _ _
    · skip
      refine zL_bd (d_140_112 _ _ _ _ _ _ _ _) (m_139_ok _ _ _) fun v1 im1 lm1 => ?_
      refine zL_ifm (d_140_117 _ _ _ _ _ _ _ _ _) (fun h => ?_) (fun h => ?_)
      · repeat rw [if_pos h]
        refine zL_ifm (d_140_125 _ _ _ _ _ _ _ _) (fun h => ?_) (fun h => ?_)
        · repeat rw [if_pos h]
          refine zL_eq (d_140_130 _ _ _ _ _ _ _ _) ?_
          exact J_140_166_ok _ hK7 _ ih  _ _ _ _ _ _ _ _ _ _ _
        · repeat rw [if_neg h]
          refine zL_ifm (d_140_134 _ _ _ _ _ _ _ _) (fun h => ?_) (fun h => ?_)
          · repeat rw [if_pos h]
            refine zL_eq (d_140_140 _ _ _ _ _ _ _ _) ?_
            exact J_140_166_ok _ hK7 _ ih  _ _ _ _ _ _ _ _ _ _ _
          · repeat rw [if_neg h]
            refine zL_eq (d_140_144 _ _ _ _ _ _ _ _) ?_
            exact J_140_166_ok _ hK7 _ ih  _ _ _ _ _ _ _ _ _ _ _
      · repeat rw [if_neg h]
        refine zL_ifm (d_140_149 _ _ _ _ _ _ _ _) (fun h => ?_) (fun h => ?_)
        · repeat rw [if_pos h]
          refine zL_ifm (d_140_155 _ _ _ _ _ _ _ _) (fun h => ?_) (fun h => ?_)
          · repeat rw [if_pos h]
            refine zL_eq (d_140_160 _ _ _ _ _ _ _ _) ?_
            exact J_140_166_ok _ hK7 _ ih  _ _ _ _ _ _ _ _ _ _ _
          · repeat rw [if_neg h]
            refine zL_eq (d_140_164 _ _ _ _ _ _ _ _) ?_
            exact J_140_166_ok _ hK7 _ ih  _ _ _ _ _ _ _ _ _ _ _
        · repeat rw [if_neg h]
          refine zL_eq (d_140_164 _ _ _ _ _ _ _ _) ?_
          exact J_140_166_ok _ hK7 _ ih  _ _ _ _ _ _ _ _ _ _ _
def J_140_70 (K7 : Int32 → zI → zJ → zR) (l1 : Int32) (l2 : Int32) (l3 : Int32) (s0 : Int32) (im : zI) (lm : zJ) : zR :=
    if s0 = 0 then
      if l2 = 43 then
        F_140_105 K7 2000 l1 l2 l3 s0 0 0 im lm
      else
        if l2 = 45 then
          F_140_105 K7 2000 l1 l2 l3 s0 0 0 im lm
        else
          if l2 = 110 then
            F_140_105 K7 2000 l1 l2 l3 s0 0 0 im lm
          else
            some ((l1 - 1), im, lm)
    else
      F_140_105 K7 2000 l1 l2 l3 s0 0 0 im lm
theorem J_140_70_ok {B : zeB} (K7 : Int32 → zI → zJ → zR) (hK7 : ∀ (l1 : Int32) (o2 : Option Value) (o3 : Option Value) (o4 : Option Value) (o5 : Option Value) (o6 : Option Value) (o7 : Option Value) (o8 : Option Value) (im : zI) (lm : zJ), zL B 1 (K7 l1 im lm) (zeRun 140 7 [some (.ref 170), some (.int l1), o2, o3, o4, o5, o6, o7, o8] [] (zk B im lm))) (l1 : Int32) (l2 : Int32) (l3 : Int32) (s0 : Int32) (o4 : Option Value) (o5 : Option Value) (o6 : Option Value) (o7 : Option Value) (o8 : Option Value) (im : zI) (lm : zJ) : zL B 1 (J_140_70 K7 l1 l2 l3 s0 im lm) (zeRun 140 70 [some (.ref 170), some (.int l1), some (.int l2), some (.int l3), o4, o5, o6, o7, o8] [.int s0] (zk B im lm)) := by
  unfold J_140_70
  refine zL_if (d_140_70 _ _ _ _ _ _ _ _ _) (fun h => ?_) (fun h => ?_)
  · skip
    refine zL_if (d_140_77 _ _ _ _ _ _ _ _) (fun h => ?_) (fun h => ?_)
    · skip
      refine zL_eq (d_140_99 _ _ _ _ _ _ _ _) ?_
      exact F_140_105_ok _ hK7 _ _ _ _ _ _ _ _ _ _ _
    · skip
      refine zL_if (d_140_83 _ _ _ _ _ _ _ _) (fun h => ?_) (fun h => ?_)
      · skip
        refine zL_eq (d_140_99 _ _ _ _ _ _ _ _) ?_
        exact F_140_105_ok _ hK7 _ _ _ _ _ _ _ _ _ _ _
      · skip
        refine zL_if (d_140_89 _ _ _ _ _ _ _ _) (fun h => ?_) (fun h => ?_)
        · skip
          refine zL_eq (d_140_99 _ _ _ _ _ _ _ _) ?_
          exact F_140_105_ok _ hK7 _ _ _ _ _ _ _ _ _ _ _
        · skip
          exact zL_ret (d_140_95 _ _ _ _ _ _ _ _ _)
  · skip
    refine zL_eq (d_140_99 _ _ _ _ _ _ _ _) ?_
    exact F_140_105_ok _ hK7 _ _ _ _ _ _ _ _ _ _ _
def F_140_7  : Nat → Int32 → zI → zJ → zR
  | 0, _, _, _ => none
  | n + 1, l1, im, lm =>
    if (im 170 16) ≤ l1 then
      some (if (im 170 18) = 0 then 0 else (-1), im, lm)
    else
      zCk (zeInb l1 70) <|
      zCk (zeInb (3 * (im 170 18)) 210) <|
      J_140_70 (F_140_7  n)  (l1 + 1) (im 184 (Int32.toNatClampNeg l1)) (3 * (im 170 18)) (if (im 184 (Int32.toNatClampNeg l1)) = 112 then 2 else if (im 184 (Int32.toNatClampNeg l1)) = 98 then 3 else if (im 184 (Int32.toNatClampNeg l1)) = 119 then 4 else 0) (zeU2 im 185 (Int32.toNatClampNeg (3 * (im 170 18))) (im 184 (Int32.toNatClampNeg l1))) lm
theorem F_140_7_ok {B : zeB} : ∀ (n : Nat) (l1 : Int32) (o2 : Option Value) (o3 : Option Value) (o4 : Option Value) (o5 : Option Value) (o6 : Option Value) (o7 : Option Value) (o8 : Option Value) (im : zI) (lm : zJ), zL B 1 (F_140_7  n l1 im lm) (zeRun 140 7 [some (.ref 170), some (.int l1), o2, o3, o4, o5, o6, o7, o8] [] (zk B im lm)) := by
  intro n
  induction n with
  | zero => intros; exact zL_none
  | succ n ih =>
    intro l1 o2 o3 o4 o5 o6 o7 o8 im lm
    unfold F_140_7
    refine zL_if (d_140_7 _ _ _ _ _ _ _ _) (fun h => ?_) (fun h => ?_)
    · skip
      refine zL_ifm (d_140_250 _ _ _ _ _ _ _ _) (fun h => ?_) (fun h => ?_)
      · repeat rw [if_pos h]
        exact zL_ret (d_140_257 _ _ _ _ _ _ _ _ _)
      · repeat rw [if_neg h]
        exact zL_ret (d_140_261 _ _ _ _ _ _ _ _ _)
    · skip
      refine zL_ck fun c1 => ?_
      refine zL_ck fun c2 => ?_
      refine zL_ifm (d_140_15 _ _ _ _ _ _ _ _ c1 c2) (fun h => ?_) (fun h => ?_)
      · repeat rw [if_pos h]
        refine zL_eq (d_140_45 _ _ _ _ _ _ _ _) ?_
        exact J_140_70_ok _ ih  _ _ _ _ _ _ _ _ _ _ _
      · repeat rw [if_neg h]
        refine zL_ifm (d_140_49 _ _ _ _ _ _ _ _) (fun h => ?_) (fun h => ?_)
        · repeat rw [if_pos h]
          refine zL_eq (d_140_55 _ _ _ _ _ _ _ _) ?_
          exact J_140_70_ok _ ih  _ _ _ _ _ _ _ _ _ _ _
        · repeat rw [if_neg h]
          refine zL_ifm (d_140_59 _ _ _ _ _ _ _ _) (fun h => ?_) (fun h => ?_)
          · repeat rw [if_pos h]
            refine zL_eq (d_140_65 _ _ _ _ _ _ _ _) ?_
            exact J_140_70_ok _ ih  _ _ _ _ _ _ _ _ _ _ _
          · repeat rw [if_neg h]
            refine zL_eq (d_140_69 _ _ _ _ _ _ _ _) ?_
            exact J_140_70_ok _ ih  _ _ _ _ _ _ _ _ _ _ _
def m_140  (im : zI) (lm : zJ) : zR :=
    F_140_7  2000 0 (zeU2 im 170 18 0) lm
theorem m_140_ok {B : zeB}  (im : zI) (lm : zJ) : zL B 1 (m_140  im lm) (zeRun 140 0 [some (.ref 170), none, none, none, none, none, none, none, none] [] (zk B im lm)) := by
  unfold m_140
  refine zL_eq (d_140_0 _ _ _ _ _ _ _ _) ?_
  exact F_140_7_ok  _ _ _ _ _ _ _ _ _ _ _
/-! X8_check -/
theorem d_141_0 {B : zeB} {im : Nat → Nat → Int32} {lm : Nat → Nat → Int64} (l1 : Int32) (o2 : Option Value) (c0 : zeInb l1 210 = true) : zeRun 141 0 [some (.ref 170), some (.int l1), o2] [] (zk B im lm) = if (im 185 (Int32.toNatClampNeg l1)) = 112 then zeRun 141 13 [some (.ref 170), some (.int l1), some (.int (im 185 (Int32.toNatClampNeg l1)))] [] (zk B im lm) else zeRun 141 34 [some (.ref 170), some (.int l1), some (.int (im 185 (Int32.toNatClampNeg l1)))] [] (zk B im lm) := ze_if (ok := (zeInb l1 210 && true)) rfl 8 rfl (zeA2 c0 rfl)
theorem d_141_13 {B : zeB} {im : Nat → Nat → Int32} {lm : Nat → Nat → Int64} (l1 : Int32) (o2 : Option Value)  : zeRun 141 13 [some (.ref 170), some (.int l1), o2] [] (zk B im lm) = zeBh 141 17 [some (.ref 170), some (.int l1), o2] [] (zeRun 47 0 [some (.ref 170), none, none, none, none, none, none] [] (zk B im lm)) := ze_call (ok := true) rfl 2 rfl rfl rfl
theorem d_141_17 {B : zeB} {im : Nat → Nat → Int32} {lm : Nat → Nat → Int64} (l1 : Int32) (o2 : Option Value) (c0 : zeInb (l1 + 1) 210 = true) : zeRun 141 17 [some (.ref 170), some (.int l1), o2] [] (zk B im lm) = zeBh 141 33 [some (.ref 170), some (.int l1), o2] [] (zeRun 48 0 [some (.ref 170), some (.int (im 170 13)), some (.int (im 185 (Int32.toNatClampNeg (l1 + 1)))), none] [] (zk B im lm)) := ze_call (ok := (zeInb (l1 + 1) 210 && true)) rfl 10 rfl rfl (zeA2 c0 rfl)
theorem d_141_33 {B : zeB} {im : Nat → Nat → Int32} {lm : Nat → Nat → Int64} (o0 : Option Value) (o1 : Option Value) (o2 : Option Value) (s0 : Int32)  : zeRun 141 33 [o0, o1, o2] [.int s0] (zk B im lm) = some (some (.int s0), (zk B im lm)) := ze_ret (ok := true) rfl 1 rfl rfl
theorem d_141_34 {B : zeB} {im : Nat → Nat → Int32} {lm : Nat → Nat → Int64} (l1 : Int32) (l2 : Int32)  : zeRun 141 34 [some (.ref 170), some (.int l1), some (.int l2)] [] (zk B im lm) = if l2 = 98 then zeRun 141 40 [some (.ref 170), some (.int l1), some (.int l2)] [] (zk B im lm) else zeRun 141 61 [some (.ref 170), some (.int l1), some (.int l2)] [] (zk B im lm) := ze_if (ok := true) rfl 3 rfl rfl
theorem d_141_40 {B : zeB} {im : Nat → Nat → Int32} {lm : Nat → Nat → Int64} (l1 : Int32) (o2 : Option Value) (c0 : zeInb (l1 + 1) 210 = true) (c1 : zeInb (l1 + 2) 210 = true) : zeRun 141 40 [some (.ref 170), some (.int l1), o2] [] (zk B im lm) = zeBh 141 60 [some (.ref 170), some (.int l1), o2] [] (zeRun 61 0 [some (.ref 170), some (.int (im 185 (Int32.toNatClampNeg (l1 + 1)))), some (.int (im 185 (Int32.toNatClampNeg (l1 + 2))))] [] (zk B im lm)) := ze_call (ok := (zeInb (l1 + 2) 210 && (zeInb (l1 + 1) 210 && true))) rfl 14 rfl rfl (zeA2 c1 (zeA2 c0 rfl))
theorem d_141_60 {B : zeB} {im : Nat → Nat → Int32} {lm : Nat → Nat → Int64} (o0 : Option Value) (o1 : Option Value) (o2 : Option Value) (s0 : Int32)  : zeRun 141 60 [o0, o1, o2] [.int s0] (zk B im lm) = some (some (.int s0), (zk B im lm)) := ze_ret (ok := true) rfl 1 rfl rfl
theorem d_141_61 {B : zeB} {im : Nat → Nat → Int32} {lm : Nat → Nat → Int64} (l1 : Int32) (l2 : Int32)  : zeRun 141 61 [some (.ref 170), some (.int l1), some (.int l2)] [] (zk B im lm) = if l2 = 119 then zeRun 141 67 [some (.ref 170), some (.int l1), some (.int l2)] [] (zk B im lm) else zeRun 141 82 [some (.ref 170), some (.int l1), some (.int l2)] [] (zk B im lm) := ze_if (ok := true) rfl 3 rfl rfl
theorem d_141_67 {B : zeB} {im : Nat → Nat → Int32} {lm : Nat → Nat → Int64} (l1 : Int32) (o2 : Option Value) (c0 : zeInb (l1 + 1) 210 = true) : zeRun 141 67 [some (.ref 170), some (.int l1), o2] [] (zk B im lm) = zeBh 141 79 [some (.ref 170), some (.int l1), o2] [] (zeRun 100 0 [some (.ref 170), some (.int (im 185 (Int32.toNatClampNeg (l1 + 1))))] [] (zk B im lm)) := ze_call (ok := (zeInb (l1 + 1) 210 && true)) rfl 8 rfl rfl (zeA2 c0 rfl)
theorem d_141_79 {B : zeB} {im : Nat → Nat → Int32} {lm : Nat → Nat → Int64} (o0 : Option Value) (o1 : Option Value) (o2 : Option Value) (s0 : Int32)  : zeRun 141 79 [o0, o1, o2] [.int s0] (zk B im lm) = some (some (.int s0), (zk B im lm)) := ze_ret (ok := true) rfl 2 rfl rfl
theorem d_141_82 {B : zeB} {im : Nat → Nat → Int32} {lm : Nat → Nat → Int64} (o1 : Option Value) (l2 : Int32)  : zeRun 141 82 [some (.ref 170), o1, some (.int l2)] [] (zk B im lm) = if l2 = 110 then zeRun 141 88 [some (.ref 170), o1, some (.int l2)] [] (zk B im lm) else zeRun 141 95 [some (.ref 170), o1, some (.int l2)] [] (zk B im lm) := ze_if (ok := true) rfl 3 rfl rfl
theorem d_141_88 {B : zeB} {im : Nat → Nat → Int32} {lm : Nat → Nat → Int64} (o1 : Option Value) (o2 : Option Value)  : zeRun 141 88 [some (.ref 170), o1, o2] [] (zk B im lm) = zeBh 141 92 [some (.ref 170), o1, o2] [] (zeRun 94 0 [some (.ref 170)] [] (zk B im lm)) := ze_call (ok := true) rfl 2 rfl rfl rfl
theorem d_141_92 {B : zeB} {im : Nat → Nat → Int32} {lm : Nat → Nat → Int64} (o0 : Option Value) (o1 : Option Value) (o2 : Option Value) (s0 : Int32)  : zeRun 141 92 [o0, o1, o2] [.int s0] (zk B im lm) = some (some (.int s0), (zk B im lm)) := ze_ret (ok := true) rfl 2 rfl rfl
theorem d_141_95 {B : zeB} {im : Nat → Nat → Int32} {lm : Nat → Nat → Int64} (o1 : Option Value) (o2 : Option Value)  : zeRun 141 95 [some (.ref 170), o1, o2] [] (zk B im lm) = zeBh 141 99 [some (.ref 170), o1, o2] [] (zeRun 87 0 [some (.ref 170), none] [] (zk B im lm)) := ze_call (ok := true) rfl 2 rfl rfl rfl
theorem d_141_99 {B : zeB} {im : Nat → Nat → Int32} {lm : Nat → Nat → Int64} (o0 : Option Value) (o1 : Option Value) (o2 : Option Value) (s0 : Int32)  : zeRun 141 99 [o0, o1, o2] [.int s0] (zk B im lm) = some (some (.int s0), (zk B im lm)) := ze_ret (ok := true) rfl 1 rfl rfl
def m_141 (l1 : Int32) (im : zI) (lm : zJ) : zR :=
    zCk (zeInb l1 210) <|
    if (im 185 (Int32.toNatClampNeg l1)) = 112 then
      zBd (m_47  im lm) fun _ im1 lm1 =>
      zCk (zeInb (l1 + 1) 210) <|
      zBd (m_48 (im1 170 13) (im1 185 (Int32.toNatClampNeg (l1 + 1))) im1 lm1) fun v2 im2 lm2 =>
      some (v2, im2, lm2)
    else
      if (im 185 (Int32.toNatClampNeg l1)) = 98 then
        zCk (zeInb (l1 + 1) 210) <|
        zCk (zeInb (l1 + 2) 210) <|
        zBd (m_61 (im 185 (Int32.toNatClampNeg (l1 + 1))) (im 185 (Int32.toNatClampNeg (l1 + 2))) im lm) fun v3 im3 lm3 =>
        some (v3, im3, lm3)
      else
        if (im 185 (Int32.toNatClampNeg l1)) = 119 then
          zCk (zeInb (l1 + 1) 210) <|
          zBd (m_100 (im 185 (Int32.toNatClampNeg (l1 + 1))) im lm) fun v4 im4 lm4 =>
          some (v4, im4, lm4)
        else
          if (im 185 (Int32.toNatClampNeg l1)) = 110 then
            zBd (m_94  im lm) fun v5 im5 lm5 =>
            some (v5, im5, lm5)
          else
            zBd (m_87  im lm) fun v6 im6 lm6 =>
            some (v6, im6, lm6)
theorem m_141_ok {B : zeB} (l1 : Int32) (im : zI) (lm : zJ) : zL B 1 (m_141 l1 im lm) (zeRun 141 0 [some (.ref 170), some (.int l1), none] [] (zk B im lm)) := by
  unfold m_141
  refine zL_ck fun c1 => ?_
  refine zL_if (d_141_0 _ _ c1) (fun h => ?_) (fun h => ?_)
  · skip
    refine zL_bdv (d_141_13 _ _) (m_47_ok _ _) fun _ im1 lm1 => ?_
    refine zL_ck fun c2 => ?_
    refine zL_bd (d_141_17 _ _ c2) (m_48_ok _ _ _ _) fun v2 im2 lm2 => ?_
    exact zL_ret (d_141_33 _ _ _ _)
  · skip
    refine zL_if (d_141_34 _ _) (fun h => ?_) (fun h => ?_)
    · skip
      refine zL_ck fun c3 => ?_
      refine zL_ck fun c4 => ?_
      refine zL_bd (d_141_40 _ _ c3 c4) (m_61_ok _ _ _ _) fun v3 im3 lm3 => ?_
      exact zL_ret (d_141_60 _ _ _ _)
    · skip
      refine zL_if (d_141_61 _ _) (fun h => ?_) (fun h => ?_)
      · skip
        refine zL_ck fun c5 => ?_
        refine zL_bd (d_141_67 _ _ c5) (m_100_ok _ _ _) fun v4 im4 lm4 => ?_
        exact zL_ret (d_141_79 _ _ _ _)
      · skip
        refine zL_if (d_141_82 _ _) (fun h => ?_) (fun h => ?_)
        · skip
          refine zL_bd (d_141_88 _ _) (m_94_ok _ _) fun v5 im5 lm5 => ?_
          exact zL_ret (d_141_92 _ _ _ _)
        · skip
          refine zL_bd (d_141_95 _ _) (m_87_ok _ _) fun v6 im6 lm6 => ?_
          exact zL_ret (d_141_99 _ _ _ _)
/-! X8_does -/
theorem d_142_0 {B : zeB} {im : Nat → Nat → Int32} {lm : Nat → Nat → Int64} (l1 : Int32) (o2 : Option Value) (o3 : Option Value) (c0 : zeInb l1 210 = true) : zeRun 142 0 [some (.ref 170), some (.int l1), o2, o3] [] (zk B im lm) = if (im 185 (Int32.toNatClampNeg l1)) = 112 then zeRun 142 15 [some (.ref 170), some (.int l1), some (.int (im 185 (Int32.toNatClampNeg l1))), some (.int 0)] [] (zk B im lm) else zeRun 142 31 [some (.ref 170), some (.int l1), some (.int (im 185 (Int32.toNatClampNeg l1))), some (.int 0)] [] (zk B im lm) := ze_if (ok := (zeInb l1 210 && true)) rfl 10 rfl (zeA2 c0 rfl)
theorem d_142_15 {B : zeB} {im : Nat → Nat → Int32} {lm : Nat → Nat → Int64} (l1 : Int32) (o2 : Option Value) (o3 : Option Value) (c0 : zeInb (l1 + 1) 210 = true) : zeRun 142 15 [some (.ref 170), some (.int l1), o2, o3] [] (zk B im lm) = zeBh 142 27 [some (.ref 170), some (.int l1), o2, o3] [] (zeRun 50 0 [some (.ref 170), some (.int (im 185 (Int32.toNatClampNeg (l1 + 1)))), none] [] (zk B im lm)) := ze_call (ok := (zeInb (l1 + 1) 210 && true)) rfl 8 rfl rfl (zeA2 c0 rfl)
theorem d_142_27 {B : zeB} {im : Nat → Nat → Int32} {lm : Nat → Nat → Int64} (o0 : Option Value) (o1 : Option Value) (o2 : Option Value) (o3 : Option Value) (s0 : Int32)  : zeRun 142 27 [o0, o1, o2, o3] [.int s0] (zk B im lm) = some (none, (zk B im lm)) := ze_ret (ok := true) rfl 3 rfl rfl
theorem d_142_31 {B : zeB} {im : Nat → Nat → Int32} {lm : Nat → Nat → Int64} (l1 : Int32) (l2 : Int32) (o3 : Option Value)  : zeRun 142 31 [some (.ref 170), some (.int l1), some (.int l2), o3] [] (zk B im lm) = if l2 = 98 then zeRun 142 37 [some (.ref 170), some (.int l1), some (.int l2), o3] [] (zk B im lm) else zeRun 142 61 [some (.ref 170), some (.int l1), some (.int l2), o3] [] (zk B im lm) := ze_if (ok := true) rfl 3 rfl rfl
theorem d_142_37 {B : zeB} {im : Nat → Nat → Int32} {lm : Nat → Nat → Int64} (l1 : Int32) (o2 : Option Value) (o3 : Option Value) (c0 : zeInb (l1 + 1) 210 = true) (c1 : zeInb (l1 + 2) 210 = true) : zeRun 142 37 [some (.ref 170), some (.int l1), o2, o3] [] (zk B im lm) = zeBh 142 57 [some (.ref 170), some (.int l1), o2, o3] [] (zeRun 65 0 [some (.ref 170), some (.int (im 185 (Int32.toNatClampNeg (l1 + 1)))), some (.int (im 185 (Int32.toNatClampNeg (l1 + 2))))] [] (zk B im lm)) := ze_call (ok := (zeInb (l1 + 2) 210 && (zeInb (l1 + 1) 210 && true))) rfl 14 rfl rfl (zeA2 c1 (zeA2 c0 rfl))
theorem d_142_57 {B : zeB} {im : Nat → Nat → Int32} {lm : Nat → Nat → Int64} (o0 : Option Value) (o1 : Option Value) (o2 : Option Value) (o3 : Option Value) (s0 : Int32)  : zeRun 142 57 [o0, o1, o2, o3] [.int s0] (zk B im lm) = some (none, (zk B im lm)) := ze_ret (ok := true) rfl 3 rfl rfl
theorem d_142_61 {B : zeB} {im : Nat → Nat → Int32} {lm : Nat → Nat → Int64} (l1 : Int32) (l2 : Int32) (o3 : Option Value)  : zeRun 142 61 [some (.ref 170), some (.int l1), some (.int l2), o3] [] (zk B im lm) = if l2 = 119 then zeRun 142 67 [some (.ref 170), some (.int l1), some (.int l2), o3] [] (zk B im lm) else zeRun 142 83 [some (.ref 170), some (.int l1), some (.int l2), o3] [] (zk B im lm) := ze_if (ok := true) rfl 3 rfl rfl
theorem d_142_67 {B : zeB} {im : Nat → Nat → Int32} {lm : Nat → Nat → Int64} (l1 : Int32) (o2 : Option Value) (o3 : Option Value) (c0 : zeInb (l1 + 1) 210 = true) : zeRun 142 67 [some (.ref 170), some (.int l1), o2, o3] [] (zk B im lm) = zeBh 142 79 [some (.ref 170), some (.int l1), o2, o3] [] (zeRun 101 0 [some (.ref 170), some (.int (im 185 (Int32.toNatClampNeg (l1 + 1))))] [] (zk B im lm)) := ze_call (ok := (zeInb (l1 + 1) 210 && true)) rfl 8 rfl rfl (zeA2 c0 rfl)
theorem d_142_79 {B : zeB} {im : Nat → Nat → Int32} {lm : Nat → Nat → Int64} (o0 : Option Value) (o1 : Option Value) (o2 : Option Value) (o3 : Option Value) (s0 : Int32)  : zeRun 142 79 [o0, o1, o2, o3] [.int s0] (zk B im lm) = some (none, (zk B im lm)) := ze_ret (ok := true) rfl 3 rfl rfl
theorem d_142_83 {B : zeB} {im : Nat → Nat → Int32} {lm : Nat → Nat → Int64} (o1 : Option Value) (l2 : Int32) (o3 : Option Value)  : zeRun 142 83 [some (.ref 170), o1, some (.int l2), o3] [] (zk B im lm) = if l2 = 110 then zeRun 142 89 [some (.ref 170), o1, some (.int l2), o3] [] (zk B im lm) else zeRun 142 96 [some (.ref 170), o1, some (.int l2), o3] [] (zk B im lm) := ze_if (ok := true) rfl 3 rfl rfl
theorem d_142_89 {B : zeB} {im : Nat → Nat → Int32} {lm : Nat → Nat → Int64} (o1 : Option Value) (o2 : Option Value) (o3 : Option Value)  : zeRun 142 89 [some (.ref 170), o1, o2, o3] [] (zk B im lm) = zeBh 142 93 [some (.ref 170), o1, o2, o3] [] (zeRun 95 0 [some (.ref 170)] [] (zk B im lm)) := ze_call (ok := true) rfl 2 rfl rfl rfl
theorem d_142_93 {B : zeB} {im : Nat → Nat → Int32} {lm : Nat → Nat → Int64} (o0 : Option Value) (o1 : Option Value) (o2 : Option Value) (o3 : Option Value) (s0 : Int32)  : zeRun 142 93 [o0, o1, o2, o3] [.int s0] (zk B im lm) = some (none, (zk B im lm)) := ze_ret (ok := true) rfl 3 rfl rfl
theorem d_142_96 {B : zeB} {im : Nat → Nat → Int32} {lm : Nat → Nat → Int64} (o1 : Option Value) (l2 : Int32) (o3 : Option Value)  : zeRun 142 96 [some (.ref 170), o1, some (.int l2), o3] [] (zk B im lm) = if l2 = 43 then zeRun 142 103 [some (.ref 170), o1, some (.int l2), o3] [.ref 170] (zk B im lm) else zeRun 142 107 [some (.ref 170), o1, some (.int l2), o3] [.ref 170] (zk B im lm) := ze_if (ok := true) rfl 4 rfl rfl
theorem d_142_103 {B : zeB} {im : Nat → Nat → Int32} {lm : Nat → Nat → Int64} (o0 : Option Value) (o1 : Option Value) (o2 : Option Value) (o3 : Option Value)  : zeRun 142 103 [o0, o1, o2, o3] [.ref 170] (zk B im lm) = zeRun 142 108 [o0, o1, o2, o3] [.int 1, .ref 170] (zk B im lm) := ze_go (ok := true) rfl 2 rfl rfl
theorem d_142_107 {B : zeB} {im : Nat → Nat → Int32} {lm : Nat → Nat → Int64} (o0 : Option Value) (o1 : Option Value) (o2 : Option Value) (o3 : Option Value)  : zeRun 142 107 [o0, o1, o2, o3] [.ref 170] (zk B im lm) = zeRun 142 108 [o0, o1, o2, o3] [.int 0, .ref 170] (zk B im lm) := ze_go (ok := true) rfl 1 rfl rfl
theorem d_142_108 {B : zeB} {im : Nat → Nat → Int32} {lm : Nat → Nat → Int64} (o0 : Option Value) (o1 : Option Value) (o2 : Option Value) (o3 : Option Value) (s1 : Int32)  : zeRun 142 108 [o0, o1, o2, o3] [.int s1, .ref 170] (zk B im lm) = zeBh 142 111 [o0, o1, o2, o3] [] (zeRun 90 0 [some (.ref 170), some (.int s1), none, none, none, none, none] [] (zk B im lm)) := ze_call (ok := true) rfl 1 rfl rfl rfl
theorem d_142_111 {B : zeB} {im : Nat → Nat → Int32} {lm : Nat → Nat → Int64} (o0 : Option Value) (o1 : Option Value) (o2 : Option Value) (o3 : Option Value) (s0 : Int32)  : zeRun 142 111 [o0, o1, o2, o3] [.int s0] (zk B im lm) = some (none, (zk B im lm)) := ze_ret (ok := true) rfl 2 rfl rfl
def J_142_108  (s1 : Int32) (im : zI) (lm : zJ) : zR :=
    zBd (m_90 s1 im lm) fun v1 im1 lm1 =>
    some (0, im1, lm1)
theorem J_142_108_ok {B : zeB} (s1 : Int32) (o0 : Option Value) (o1 : Option Value) (o2 : Option Value) (o3 : Option Value) (im : zI) (lm : zJ) : zL B 0 (J_142_108  s1 im lm) (zeRun 142 108 [o0, o1, o2, o3] [.int s1, .ref 170] (zk B im lm)) := by
  unfold J_142_108
  refine zL_bd (d_142_108 _ _ _ _ _) (m_90_ok _ _ _) fun v1 im1 lm1 => ?_
  exact zL_retv (d_142_111 _ _ _ _ _)
def m_142 (l1 : Int32) (im : zI) (lm : zJ) : zR :=
    zCk (zeInb l1 210) <|
    if (im 185 (Int32.toNatClampNeg l1)) = 112 then
      zCk (zeInb (l1 + 1) 210) <|
      zBd (m_50 (im 185 (Int32.toNatClampNeg (l1 + 1))) im lm) fun v1 im1 lm1 =>
      some (0, im1, lm1)
    else
      if (im 185 (Int32.toNatClampNeg l1)) = 98 then
        zCk (zeInb (l1 + 1) 210) <|
        zCk (zeInb (l1 + 2) 210) <|
        zBd (m_65 (im 185 (Int32.toNatClampNeg (l1 + 1))) (im 185 (Int32.toNatClampNeg (l1 + 2))) im lm) fun v2 im2 lm2 =>
        some (0, im2, lm2)
      else
        if (im 185 (Int32.toNatClampNeg l1)) = 119 then
          zCk (zeInb (l1 + 1) 210) <|
          zBd (m_101 (im 185 (Int32.toNatClampNeg (l1 + 1))) im lm) fun v3 im3 lm3 =>
          some (0, im3, lm3)
        else
          if (im 185 (Int32.toNatClampNeg l1)) = 110 then
            zBd (m_95  im lm) fun v4 im4 lm4 =>
            some (0, im4, lm4)
          else
            J_142_108   (if (im 185 (Int32.toNatClampNeg l1)) = 43 then 1 else 0) im lm
theorem m_142_ok {B : zeB} (l1 : Int32) (im : zI) (lm : zJ) : zL B 0 (m_142 l1 im lm) (zeRun 142 0 [some (.ref 170), some (.int l1), none, none] [] (zk B im lm)) := by
  unfold m_142
  refine zL_ck fun c1 => ?_
  refine zL_if (d_142_0 _ _ _ c1) (fun h => ?_) (fun h => ?_)
  · skip
    refine zL_ck fun c2 => ?_
    refine zL_bd (d_142_15 _ _ _ c2) (m_50_ok _ _ _) fun v1 im1 lm1 => ?_
    exact zL_retv (d_142_27 _ _ _ _ _)
  · skip
    refine zL_if (d_142_31 _ _ _) (fun h => ?_) (fun h => ?_)
    · skip
      refine zL_ck fun c3 => ?_
      refine zL_ck fun c4 => ?_
      refine zL_bd (d_142_37 _ _ _ c3 c4) (m_65_ok _ _ _ _) fun v2 im2 lm2 => ?_
      exact zL_retv (d_142_57 _ _ _ _ _)
    · skip
      refine zL_if (d_142_61 _ _ _) (fun h => ?_) (fun h => ?_)
      · skip
        refine zL_ck fun c5 => ?_
        refine zL_bd (d_142_67 _ _ _ c5) (m_101_ok _ _ _) fun v3 im3 lm3 => ?_
        exact zL_retv (d_142_79 _ _ _ _ _)
      · skip
        refine zL_if (d_142_83 _ _ _) (fun h => ?_) (fun h => ?_)
        · skip
          refine zL_bd (d_142_89 _ _ _) (m_95_ok _ _) fun v4 im4 lm4 => ?_
          exact zL_retv (d_142_93 _ _ _ _ _)
        · skip
          refine zL_ifm (d_142_96 _ _ _) (fun h => ?_) (fun h => ?_)
          · repeat rw [if_pos h]
            refine zL_eq (d_142_103 _ _ _ _) ?_
            exact J_142_108_ok   _ _ _ _ _ _ _
          · repeat rw [if_neg h]
            refine zL_eq (d_142_107 _ _ _ _) ?_
            exact J_142_108_ok   _ _ _ _ _ _ _
