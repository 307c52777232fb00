/-! pure: X8_answers, X8_answer, X7_doClose, X7_close, X8_checkClose, X8_closes, X8_close, X7_doWager, X7_wager, X8_limit, X8_checkWager, X8_tellsWager, X8_wager, X0_begin -/
/-! X8_answers -/
theorem d_90_0 {B : zeB} {im : Nat → Nat → Int32} {lm : Nat → Nat → Int64} (l1 : Int32) (o2 : Option Value) (o3 : Option Value) (o4 : Option Value) (o5 : Option Value) (o6 : Option Value)  : zeRun 90 0 [some (.ref 170), some (.int l1), o2, o3, o4, o5, o6] [] (zk B im lm) = zeBh 90 4 [some (.ref 170), some (.int l1), o2, o3, o4, o5, o6] [] (zeRun 47 0 [some (.ref 170), none, none, none, none, none, none] [] (zk B im lm)) := ze_call (ok := true) rfl 2 rfl rfl rfl
theorem d_90_4 {B : zeB} {im : Nat → Nat → Int32} {lm : Nat → Nat → Int64} (l1 : Int32) (o2 : Option Value) (o3 : Option Value) (o4 : Option Value) (o5 : Option Value) (o6 : Option Value)  : zeRun 90 4 [some (.ref 170), some (.int l1), o2, o3, o4, o5, o6] [] (zk B im lm) = if (im 171 0) = 1 then zeRun 90 16 [some (.ref 170), some (.int l1), some (.int (im 171 0)), o3, o4, o5, o6] [] (zk B im lm) else zeRun 90 23 [some (.ref 170), some (.int l1), some (.int (im 171 0)), o3, o4, o5, o6] [] (zk B im lm) := ze_if (ok := true) rfl 8 rfl rfl
theorem d_90_16 {B : zeB} {im : Nat → Nat → Int32} {lm : Nat → Nat → Int64} (l1 : Int32) (l2 : Int32) (o3 : Option Value) (o4 : Option Value) (o5 : Option Value) (o6 : Option Value)  : zeRun 90 16 [some (.ref 170), some (.int l1), some (.int l2), o3, o4, o5, o6] [] (zk B im lm) = zeBh 90 20 [some (.ref 170), some (.int l1), some (.int l2), o3, o4, o5, o6] [] (zeRun 64 0 [some (.ref 170), none, none, none, none] [] (zk B im lm)) := ze_call (ok := true) rfl 2 rfl rfl rfl
theorem d_90_20 {B : zeB} {im : Nat → Nat → Int32} {lm : Nat → Nat → Int64} (l1 : Int32) (l2 : Int32) (o3 : Option Value) (o4 : Option Value) (o5 : Option Value) (o6 : Option Value) (s0 : Int32)  : zeRun 90 20 [some (.ref 170), some (.int l1), some (.int l2), o3, o4, o5, o6] [.int s0] (zk B im lm) = zeRun 90 24 [some (.ref 170), some (.int l1), some (.int l2), o3, o4, o5, o6] [.int s0] (zk B im lm) := ze_go (ok := true) rfl 1 rfl rfl
theorem d_90_23 {B : zeB} {im : Nat → Nat → Int32} {lm : Nat → Nat → Int64} (l1 : Int32) (l2 : Int32) (o3 : Option Value) (o4 : Option Value) (o5 : Option Value) (o6 : Option Value)  : zeRun 90 23 [some (.ref 170), some (.int l1), some (.int l2), o3, o4, o5, o6] [] (zk B im lm) = zeRun 90 24 [some (.ref 170), some (.int l1), some (.int l2), o3, o4, o5, o6] [.int 0] (zk B im lm) := ze_go (ok := true) rfl 1 rfl rfl
theorem d_90_24 {B : zeB} {im : Nat → Nat → Int32} {lm : Nat → Nat → Int64} (l1 : Int32) (l2 : Int32) (o3 : Option Value) (o4 : Option Value) (o5 : Option Value) (o6 : Option Value) (s0 : Int32)  : zeRun 90 24 [some (.ref 170), some (.int l1), some (.int l2), o3, o4, o5, o6] [.int s0] (zk B im lm) = if l2 = 1 then zeRun 90 30 [some (.ref 170), some (.int l1), some (.int l2), some (.int s0), o4, o5, o6] [] (zk B im lm) else zeRun 90 39 [some (.ref 170), some (.int l1), some (.int l2), some (.int s0), o4, o5, o6] [] (zk B im lm) := ze_if (ok := true) rfl 4 rfl rfl
theorem d_90_30 {B : zeB} {im : Nat → Nat → Int32} {lm : Nat → Nat → Int64} (l1 : Int32) (l2 : Int32) (o3 : Option Value) (o4 : Option Value) (o5 : Option Value) (o6 : Option Value)  : zeRun 90 30 [some (.ref 170), some (.int l1), some (.int l2), o3, o4, o5, o6] [] (zk B im lm) = zeRun 90 55 [some (.ref 170), some (.int l1), some (.int l2), o3, o4, o5, o6] [.int (im 182 0)] (zk B im lm) := ze_go (ok := true) rfl 5 rfl rfl
theorem d_90_39 {B : zeB} {im : Nat → Nat → Int32} {lm : Nat → Nat → Int64} (l1 : Int32) (l2 : Int32) (o3 : Option Value) (o4 : Option Value) (o5 : Option Value) (o6 : Option Value)  : zeRun 90 39 [some (.ref 170), some (.int l1), some (.int l2), o3, o4, o5, o6] [] (zk B im lm) = if l2 = 3 then zeRun 90 44 [some (.ref 170), some (.int l1), some (.int l2), o3, o4, o5, o6] [] (zk B im lm) else zeRun 90 51 [some (.ref 170), some (.int l1), some (.int l2), o3, o4, o5, o6] [] (zk B im lm) := ze_if (ok := true) rfl 3 rfl rfl
theorem d_90_44 {B : zeB} {im : Nat → Nat → Int32} {lm : Nat → Nat → Int64} (l1 : Int32) (l2 : Int32) (o3 : Option Value) (o4 : Option Value) (o5 : Option Value) (o6 : Option Value)  : zeRun 90 44 [some (.ref 170), some (.int l1), some (.int l2), o3, o4, o5, o6] [] (zk B im lm) = zeRun 90 55 [some (.ref 170), some (.int l1), some (.int l2), o3, o4, o5, o6] [.int (im 170 13)] (zk B im lm) := ze_go (ok := true) rfl 3 rfl rfl
theorem d_90_51 {B : zeB} {im : Nat → Nat → Int32} {lm : Nat → Nat → Int64} (l1 : Int32) (l2 : Int32) (o3 : Option Value) (o4 : Option Value) (o5 : Option Value) (o6 : Option Value)  : zeRun 90 51 [some (.ref 170), some (.int l1), some (.int l2), o3, o4, o5, o6] [] (zk B im lm) = zeBh 90 55 [some (.ref 170), some (.int l1), some (.int l2), o3, o4, o5, o6] [] (zeRun 88 0 [some (.ref 170), none, none, none] [] (zk B im lm)) := ze_call (ok := true) rfl 2 rfl rfl rfl
theorem d_90_55 {B : zeB} {im : Nat → Nat → Int32} {lm : Nat → Nat → Int64} (l1 : Int32) (l2 : Int32) (o3 : Option Value) (o4 : Option Value) (o5 : Option Value) (o6 : Option Value) (s0 : Int32)  : zeRun 90 55 [some (.ref 170), some (.int l1), some (.int l2), o3, o4, o5, o6] [.int s0] (zk B im lm) = if l2 = 1 then zeRun 90 62 [some (.ref 170), some (.int l1), some (.int l2), o3, some (.int s0), o5, o6] [] (zk B im lm) else zeRun 90 164 [some (.ref 170), some (.int l1), some (.int l2), o3, some (.int s0), o5, o6] [] (zk B im lm) := ze_if (ok := true) rfl 4 rfl rfl
theorem d_90_62 {B : zeB} {im : Nat → Nat → Int32} {lm : Nat → Nat → Int64} (l1 : Int32) (o2 : Option Value) (o3 : Option Value) (l4 : Int32) (o5 : Option Value) (o6 : Option Value)  : zeRun 90 62 [some (.ref 170), some (.int l1), o2, o3, some (.int l4), o5, o6] [] (zk B im lm) = if (im 171 14) = 0 then zeRun 90 72 [some (.ref 170), some (.int l1), o2, o3, some (.int l4), o5, o6] [] (zk B im lm) else zeRun 90 76 [some (.ref 170), some (.int l1), o2, o3, some (.int l4), o5, o6] [] (zk B im lm) := ze_if (ok := true) rfl 5 rfl rfl
theorem d_90_72 {B : zeB} {im : Nat → Nat → Int32} {lm : Nat → Nat → Int64} (l1 : Int32) (o2 : Option Value) (o3 : Option Value) (l4 : Int32) (o5 : Option Value) (o6 : Option Value)  : zeRun 90 72 [some (.ref 170), some (.int l1), o2, o3, some (.int l4), o5, o6] [] (zk B im lm) = zeRun 90 77 [some (.ref 170), some (.int l1), o2, o3, some (.int l4), o5, o6] [.int 0] (zk B im lm) := ze_go (ok := true) rfl 2 rfl rfl
theorem d_90_76 {B : zeB} {im : Nat → Nat → Int32} {lm : Nat → Nat → Int64} (l1 : Int32) (o2 : Option Value) (o3 : Option Value) (l4 : Int32) (o5 : Option Value) (o6 : Option Value)  : zeRun 90 76 [some (.ref 170), some (.int l1), o2, o3, some (.int l4), o5, o6] [] (zk B im lm) = zeRun 90 77 [some (.ref 170), some (.int l1), o2, o3, some (.int l4), o5, o6] [.int 1] (zk B im lm) := ze_go (ok := true) rfl 1 rfl rfl
theorem d_90_164 {B : zeB} {im : Nat → Nat → Int32} {lm : Nat → Nat → Int64} (l1 : Int32) (l2 : Int32) (o3 : Option Value) (l4 : Int32) (o5 : Option Value) (o6 : Option Value)  : zeRun 90 164 [some (.ref 170), some (.int l1), some (.int l2), o3, some (.int l4), o5, o6] [] (zk B im lm) = if l2 = 3 then zeRun 90 169 [some (.ref 170), some (.int l1), some (.int l2), o3, some (.int l4), o5, o6] [] (zk B im lm) else zeRun 90 207 [some (.ref 170), some (.int l1), some (.int l2), o3, some (.int l4), o5, o6] [] (zk B im lm) := ze_if (ok := true) rfl 3 rfl rfl
theorem d_90_169 {B : zeB} {im : Nat → Nat → Int32} {lm : Nat → Nat → Int64} (l1 : Int32) (o2 : Option Value) (o3 : Option Value) (l4 : Int32) (o5 : Option Value) (o6 : Option Value)  : zeRun 90 169 [some (.ref 170), some (.int l1), o2, o3, some (.int l4), o5, o6] [] (zk B im lm) = zeBh 90 190 [some (.ref 170), some (.int l1), o2, o3, some (.int l4), o5, o6] [] (zeRun 89 0 [some (.ref 170), some (.int l4), some (.int 2), some (.int (im 171 2)), some (.int (im 171 12)), some (.int l1), none] [] (zk B im lm)) := ze_call (ok := true) rfl 13 rfl rfl rfl
theorem d_90_190 {B : zeB} {im : Nat → Nat → Int32} {lm : Nat → Nat → Int64} (o1 : Option Value) (o2 : Option Value) (o3 : Option Value) (l4 : Int32) (o5 : Option Value) (o6 : Option Value)  : zeRun 90 190 [some (.ref 170), o1, o2, o3, some (.int l4), o5, o6] [] (zk B im lm) = zeRun 90 259 [some (.ref 170), o1, o2, o3, some (.int l4), o5, o6] [] (zk B (zeU2 (zeU2 im 171 0 0) 171 2 (-1)) lm) := ze_go (ok := true) rfl 11 rfl rfl
theorem d_90_207 {B : zeB} {im : Nat → Nat → Int32} {lm : Nat → Nat → Int64} (l1 : Int32) (o2 : Option Value) (o3 : Option Value) (l4 : Int32) (o5 : Option Value) (o6 : Option Value) (c0 : zeInb (22 + l4) 360 = true) : zeRun 90 207 [some (.ref 170), some (.int l1), o2, o3, some (.int l4), o5, o6] [] (zk B im lm) = zeBh 90 226 [some (.ref 170), some (.int l1), o2, o3, some (.int l4), o5, o6] [] (zeRun 89 0 [some (.ref 170), some (.int l4), some (.int 3), some (.int (-1)), some (.int (im 171 (Int32.toNatClampNeg (22 + l4)))), some (.int l1), none] [] (zk B im lm)) := ze_call (ok := (zeInb (22 + l4) 360 && true)) rfl 12 rfl rfl (zeA2 c0 rfl)
theorem d_90_226 {B : zeB} {im : Nat → Nat → Int32} {lm : Nat → Nat → Int64} (o1 : Option Value) (o2 : Option Value) (o3 : Option Value) (l4 : Int32) (o5 : Option Value) (o6 : Option Value)  : zeRun 90 226 [some (.ref 170), o1, o2, o3, some (.int l4), o5, o6] [] (zk B im lm) = zeBh 90 249 [some (.ref 170), o1, o2, o3, some (.int l4), o5, o6] [.int 0, .ref 171] (zeRun 88 0 [some (.ref 170), none, none, none] [] (zk B (zeU2 im 171 14 ((im 171 14) ||| (1 <<< (l4 &&& 31)))) lm)) := ze_call (ok := true) rfl 15 rfl rfl rfl
theorem d_90_249 {B : zeB} {im : Nat → Nat → Int32} {lm : Nat → Nat → Int64} (o1 : Option Value) (o2 : Option Value) (o3 : Option Value) (l4 : Int32) (o5 : Option Value) (o6 : Option Value) (s1 : Int32) (s2 : Int32)  : zeRun 90 249 [some (.ref 170), o1, o2, o3, some (.int l4), o5, o6] [.int s2, .int s1, .ref 171] (zk B im lm) = if 0 ≤ s2 then zeRun 90 257 [some (.ref 170), o1, o2, o3, some (.int l4), o5, o6] [.int s1, .ref 171] (zk B im lm) else zeRun 90 252 [some (.ref 170), o1, o2, o3, some (.int l4), o5, o6] [.int s1, .ref 171] (zk B im lm) := ze_if (ok := true) rfl 1 rfl rfl
theorem d_90_257 {B : zeB} {im : Nat → Nat → Int32} {lm : Nat → Nat → Int64} (o1 : Option Value) (o2 : Option Value) (o3 : Option Value) (l4 : Int32) (o5 : Option Value) (o6 : Option Value) (s1 : Int32)  : zeRun 90 257 [some (.ref 170), o1, o2, o3, some (.int l4), o5, o6] [.int s1, .ref 171] (zk B im lm) = zeRun 90 258 [some (.ref 170), o1, o2, o3, some (.int l4), o5, o6] [.int 5, .int s1, .ref 171] (zk B im lm) := ze_go (ok := true) rfl 1 rfl rfl
theorem d_90_252 {B : zeB} {im : Nat → Nat → Int32} {lm : Nat → Nat → Int64} (o1 : Option Value) (o2 : Option Value) (o3 : Option Value) (l4 : Int32) (o5 : Option Value) (o6 : Option Value) (s1 : Int32)  : zeRun 90 252 [some (.ref 170), o1, o2, o3, some (.int l4), o5, o6] [.int s1, .ref 171] (zk B im lm) = zeRun 90 258 [some (.ref 170), o1, o2, o3, some (.int l4), o5, o6] [.int 6, .int s1, .ref 171] (zk B im lm) := ze_go (ok := true) rfl 2 rfl rfl
theorem d_90_258 {B : zeB} {im : Nat → Nat → Int32} {lm : Nat → Nat → Int64} (o1 : Option Value) (o2 : Option Value) (o3 : Option Value) (l4 : Int32) (o5 : Option Value) (o6 : Option Value) (s1 : Int32) (s2 : Int32) (c0 : zeInb s1 360 = true) : zeRun 90 258 [some (.ref 170), o1, o2, o3, some (.int l4), o5, o6] [.int s2, .int s1, .ref 171] (zk B im lm) = zeRun 90 259 [some (.ref 170), o1, o2, o3, some (.int l4), o5, o6] [] (zk B (zeU2 im 171 (Int32.toNatClampNeg s1) s2) lm) := ze_go (ok := (zeInb s1 360 && true)) rfl 1 rfl (zeA2 c0 rfl)
theorem d_90_259 {B : zeB} {im : Nat → Nat → Int32} {lm : Nat → Nat → Int64} (o1 : Option Value) (o2 : Option Value) (o3 : Option Value) (l4 : Int32) (o5 : Option Value) (o6 : Option Value)  : zeRun 90 259 [some (.ref 170), o1, o2, o3, some (.int l4), o5, o6] [] (zk B im lm) = zeBh 90 263 [some (.ref 170), o1, o2, o3, some (.int l4), o5, o6] [] (zeRun 47 0 [some (.ref 170), none, none, none, none, none, none] [] (zk B im lm)) := ze_call (ok := true) rfl 2 rfl rfl rfl
theorem d_90_263 {B : zeB} {im : Nat → Nat → Int32} {lm : Nat → Nat → Int64} (o1 : Option Value) (o2 : Option Value) (o3 : Option Value) (l4 : Int32) (o5 : Option Value) (o6 : Option Value) (c0 : zeInb l4 6 = true) : zeRun 90 263 [some (.ref 170), o1, o2, o3, some (.int l4), o5, o6] [] (zk B im lm) = some (some (.int (im 175 (Int32.toNatClampNeg l4))), (zk B im lm)) := ze_ret (ok := (zeInb l4 6 && true)) rfl 5 rfl (zeA2 c0 rfl)
theorem d_90_77 {B : zeB} {im : Nat → Nat → Int32} {lm : Nat → Nat → Int64} (l1 : Int32) (o2 : Option Value) (o3 : Option Value) (l4 : Int32) (o5 : Option Value) (o6 : Option Value) (s0 : Int32)  : zeRun 90 77 [some (.ref 170), some (.int l1), o2, o3, some (.int l4), o5, o6] [.int s0] (zk B im lm) = zeBh 90 88 [some (.ref 170), some (.int l1), o2, o3, some (.int l4), some (.int s0), o6] [] (zeRun 49 0 [some (.int (im 171 2))] [] (zk B im lm)) := ze_call (ok := true) rfl 6 rfl rfl rfl
theorem d_90_88 {B : zeB} {im : Nat → Nat → Int32} {lm : Nat → Nat → Int64} (l1 : Int32) (o2 : Option Value) (o3 : Option Value) (l4 : Int32) (l5 : Int32) (o6 : Option Value) (s0 : Int32)  : zeRun 90 88 [some (.ref 170), some (.int l1), o2, o3, some (.int l4), some (.int l5), o6] [.int s0] (zk B im lm) = if l5 = 0 then zeRun 90 106 [some (.ref 170), some (.int l1), o2, o3, some (.int l4), some (.int l5), some (.int s0)] [.int (im 171 2), .int l5, .int l4, .ref 170] (zk B im lm) else zeRun 90 111 [some (.ref 170), some (.int l1), o2, o3, some (.int l4), some (.int l5), some (.int s0)] [.int (im 171 2), .int l5, .int l4, .ref 170] (zk B im lm) := ze_if (ok := true) rfl 10 rfl rfl
theorem d_90_106 {B : zeB} {im : Nat → Nat → Int32} {lm : Nat → Nat → Int64} (l1 : Int32) (o2 : Option Value) (o3 : Option Value) (l4 : Int32) (o5 : Option Value) (l6 : Int32) (s1 : Int32) (s2 : Int32) (s3 : Int32)  : zeRun 90 106 [some (.ref 170), some (.int l1), o2, o3, some (.int l4), o5, some (.int l6)] [.int s3, .int s2, .int s1, .ref 170] (zk B im lm) = zeRun 90 124 [some (.ref 170), some (.int l1), o2, o3, some (.int l4), o5, some (.int l6)] [.int l6, .int s3, .int s2, .int s1, .ref 170] (zk B im lm) := ze_go (ok := true) rfl 2 rfl rfl
theorem d_90_111 {B : zeB} {im : Nat → Nat → Int32} {lm : Nat → Nat → Int64} (l1 : Int32) (o2 : Option Value) (o3 : Option Value) (l4 : Int32) (o5 : Option Value) (l6 : Int32) (s1 : Int32) (s2 : Int32) (s3 : Int32)  : zeRun 90 111 [some (.ref 170), some (.int l1), o2, o3, some (.int l4), o5, some (.int l6)] [.int s3, .int s2, .int s1, .ref 170] (zk B im lm) = zeRun 90 124 [some (.ref 170), some (.int l1), o2, o3, some (.int l4), o5, some (.int l6)] [.int ((l6 * (im 171 8)) / 100), .int s3, .int s2, .int s1, .ref 170] (zk B im lm) := ze_go (ok := true) rfl 8 rfl rfl
theorem d_90_124 {B : zeB} {im : Nat → Nat → Int32} {lm : Nat → Nat → Int64} (l1 : Int32) (o2 : Option Value) (o3 : Option Value) (l4 : Int32) (o5 : Option Value) (o6 : Option Value) (s1 : Int32) (s2 : Int32) (s3 : Int32) (s4 : Int32)  : zeRun 90 124 [some (.ref 170), some (.int l1), o2, o3, some (.int l4), o5, o6] [.int s4, .int s3, .int s2, .int s1, .ref 170] (zk B im lm) = zeBh 90 128 [some (.ref 170), some (.int l1), o2, o3, some (.int l4), o5, o6] [] (zeRun 89 0 [some (.ref 170), some (.int s1), some (.int s2), some (.int s3), some (.int s4), some (.int l1), none] [] (zk B im lm)) := ze_call (ok := true) rfl 2 rfl rfl rfl
theorem d_90_128 {B : zeB} {im : Nat → Nat → Int32} {lm : Nat → Nat → Int64} (l1 : Int32) (o2 : Option Value) (o3 : Option Value) (l4 : Int32) (o5 : Option Value) (o6 : Option Value)  : zeRun 90 128 [some (.ref 170), some (.int l1), o2, o3, some (.int l4), o5, o6] [] (zk B im lm) = if l1 = 1 then zeRun 90 147 [some (.ref 170), some (.int l1), o2, o3, some (.int l4), o5, o6] [] (zk B (zeU2 im 171 14 ((im 171 14) ||| (1 <<< (l4 &&& 31)))) lm) else zeRun 90 161 [some (.ref 170), some (.int l1), o2, o3, some (.int l4), o5, o6] [] (zk B (zeU2 im 171 14 ((im 171 14) ||| (1 <<< (l4 &&& 31)))) lm) := ze_if (ok := true) rfl 13 rfl rfl
theorem d_90_147 {B : zeB} {im : Nat → Nat → Int32} {lm : Nat → Nat → Int64} (o1 : Option Value) (o2 : Option Value) (o3 : Option Value) (l4 : Int32) (o5 : Option Value) (o6 : Option Value)  : zeRun 90 147 [some (.ref 170), o1, o2, o3, some (.int l4), o5, o6] [] (zk B im lm) = zeRun 90 259 [some (.ref 170), o1, o2, o3, some (.int l4), o5, o6] [] (zk B (zeU2 (zeU2 im 171 0 0) 171 2 (-1)) lm) := ze_go (ok := true) rfl 11 rfl rfl
theorem d_90_161 {B : zeB} {im : Nat → Nat → Int32} {lm : Nat → Nat → Int64} (o1 : Option Value) (o2 : Option Value) (o3 : Option Value) (l4 : Int32) (o5 : Option Value) (o6 : Option Value)  : zeRun 90 161 [some (.ref 170), o1, o2, o3, some (.int l4), o5, o6] [] (zk B im lm) = zeRun 90 259 [some (.ref 170), o1, o2, o3, some (.int l4), o5, o6] [] (zk B im lm) := ze_go (ok := true) rfl 1 rfl rfl
def J_90_259  (l4 : Int32) (im : zI) (lm : zJ) : zR :=
    zBd (m_47  im lm) fun _ im1 lm1 =>
    zCk (zeInb l4 6) <|
    some ((im1 175 (Int32.toNatClampNeg l4)), im1, lm1)
theorem J_90_259_ok {B : zeB} (l4 : Int32) (o1 : Option Value) (o2 : Option Value) (o3 : Option Value) (o5 : Option Value) (o6 : Option Value) (im : zI) (lm : zJ) : zL B 1 (J_90_259  l4 im lm) (zeRun 90 259 [some (.ref 170), o1, o2, o3, some (.int l4), o5, o6] [] (zk B im lm)) := by
  unfold J_90_259
  refine zL_bdv (d_90_259 _ _ _ _ _ _) (m_47_ok _ _) fun _ im1 lm1 => ?_
  refine zL_ck fun c1 => ?_
  exact zL_ret (d_90_263 _ _ _ _ _ _ c1)
def J_90_258  (l4 : Int32) (s1 : Int32) (s2 : Int32) (im : zI) (lm : zJ) : zR :=
    zCk (zeInb s1 360) <|
    J_90_259   l4 (zeU2 im 171 (Int32.toNatClampNeg s1) s2) lm
theorem J_90_258_ok {B : zeB} (l4 : Int32) (s1 : Int32) (s2 : Int32) (o1 : Option Value) (o2 : Option Value) (o3 : Option Value) (o5 : Option Value) (o6 : Option Value) (im : zI) (lm : zJ) : zL B 1 (J_90_258  l4 s1 s2 im lm) (zeRun 90 258 [some (.ref 170), o1, o2, o3, some (.int l4), o5, o6] [.int s2, .int s1, .ref 171] (zk B im lm)) := by
  unfold J_90_258
  refine zL_ck fun c1 => ?_
  refine zL_eq (d_90_258 _ _ _ _ _ _ _ _ c1) ?_
  exact J_90_259_ok   _ _ _ _ _ _ _ _
def J_90_124  (l1 : Int32) (l4 : Int32) (s1 : Int32) (s2 : Int32) (s3 : Int32) (s4 : Int32) (im : zI) (lm : zJ) : zR :=
    zBd (m_89 s1 s2 s3 s4 l1 im lm) fun _ im1 lm1 =>
    J_90_259   l4 (if l1 = 1 then (zeU2 (zeU2 (zeU2 im1 171 14 ((im1 171 14) ||| (1 <<< (l4 &&& 31)))) 171 0 0) 171 2 (-1)) else (zeU2 im1 171 14 ((im1 171 14) ||| (1 <<< (l4 &&& 31))))) lm1
theorem J_90_124_ok {B : zeB} (l1 : Int32) (l4 : Int32) (s1 : Int32) (s2 : Int32) (s3 : Int32) (s4 : Int32) (o2 : Option Value) (o3 : Option Value) (o5 : Option Value) (o6 : Option Value) (im : zI) (lm : zJ) : zL B 1 (J_90_124  l1 l4 s1 s2 s3 s4 im lm) (zeRun 90 124 [some (.ref 170), some (.int l1), o2, o3, some (.int l4), o5, o6] [.int s4, .int s3, .int s2, .int s1, .ref 170] (zk B im lm)) := by
  unfold J_90_124
  refine zL_bdv (d_90_124 _ _ _ _ _ _ _ _ _ _) (m_89_ok _ _ _ _ _ _ _) fun _ im1 lm1 => ?_
  refine zL_ifm (d_90_128 _ _ _ _ _ _) (fun h => ?_) (fun h => ?_)
  · repeat rw [if_pos h]
    refine zL_eq (d_90_147 _ _ _ _ _ _) ?_
    exact J_90_259_ok   _ _ _ _ _ _ _ _
  · repeat rw [if_neg h]
    refine zL_eq (d_90_161 _ _ _ _ _ _) ?_
    exact J_90_259_ok   _ _ _ _ _ _ _ _
def J_90_77  (l1 : Int32) (l4 : Int32) (s0 : Int32) (im : zI) (lm : zJ) : zR :=
    J_90_124   l1 l4 l4 s0 (im 171 2) (if s0 = 0 then ((100 * (((im 171 2) / 5) + 1)) : Int32) else ((((100 * (((im 171 2) / 5) + 1)) : Int32) * (im 171 8)) / 100)) im lm
theorem J_90_77_ok {B : zeB} (l1 : Int32) (l4 : Int32) (s0 : Int32) (o2 : Option Value) (o3 : Option Value) (o5 : Option Value) (o6 : Option Value) (im : zI) (lm : zJ) : zL B 1 (J_90_77  l1 l4 s0 im lm) (zeRun 90 77 [some (.ref 170), some (.int l1), o2, o3, some (.int l4), o5, o6] [.int s0] (zk B im lm)) := by
  unfold J_90_77
  refine zL_bdp (e := ((100 * (((im 171 2) / 5) + 1)) : Int32)) (d_90_77 _ _ _ _ _ _ _) (m_49_ok _ _ _) ?_
  refine zL_ifm (d_90_88 _ _ _ _ _ _ _) (fun h => ?_) (fun h => ?_)
  · repeat rw [if_pos h]
    refine zL_eq (d_90_106 _ _ _ _ _ _ _ _ _) ?_
    exact J_90_124_ok   _ _ _ _ _ _ _ _ _ _ _ _
  · repeat rw [if_neg h]
    refine zL_eq (d_90_111 _ _ _ _ _ _ _ _ _) ?_
    exact J_90_124_ok   _ _ _ _ _ _ _ _ _ _ _ _
def J_90_55  (l1 : Int32) (l2 : Int32) (s0 : Int32) (im : zI) (lm : zJ) : zR :=
    if l2 = 1 then
      J_90_77   l1 s0 (if (im 171 14) = 0 then 0 else 1) im lm
    else
      if l2 = 3 then
        zBd (m_89 s0 2 (im 171 2) (im 171 12) l1 im lm) fun _ im1 lm1 =>
        J_90_259   s0 (zeU2 (zeU2 im1 171 0 0) 171 2 (-1)) lm1
      else
        zCk (zeInb (22 + s0) 360) <|
        zBd (m_89 s0 3 (-1) (im 171 (Int32.toNatClampNeg (22 + s0))) l1 im lm) fun _ im2 lm2 =>
        zBd (m_88  (zeU2 im2 171 14 ((im2 171 14) ||| (1 <<< (s0 &&& 31)))) lm2) fun v3 im3 lm3 =>
        J_90_258   s0 0 (if 0 ≤ v3 then 5 else 6) im3 lm3
theorem J_90_55_ok {B : zeB} (l1 : Int32) (l2 : Int32) (s0 : Int32) (o3 : Option Value) (o4 : Option Value) (o5 : Option Value) (o6 : Option Value) (im : zI) (lm : zJ) : zL B 1 (J_90_55  l1 l2 s0 im lm) (zeRun 90 55 [some (.ref 170), some (.int l1), some (.int l2), o3, o4, o5, o6] [.int s0] (zk B im lm)) := by
  unfold J_90_55
  refine zL_if (d_90_55 _ _ _ _ _ _ _) (fun h => ?_) (fun h => ?_)
  · skip
    refine zL_ifm (d_90_62 _ _ _ _ _ _) (fun h => ?_) (fun h => ?_)
    · repeat rw [if_pos h]
      refine zL_eq (d_90_72 _ _ _ _ _ _) ?_
      exact J_90_77_ok   _ _ _ _ _ _ _ _ _
    · repeat rw [if_neg h]
      refine zL_eq (d_90_76 _ _ _ _ _ _) ?_
      exact J_90_77_ok   _ _ _ _ _ _ _ _ _
  · skip
    refine zL_if (d_90_164 _ _ _ _ _ _) (fun h => ?_) (fun h => ?_)
    · skip
      refine zL_bdv (d_90_169 _ _ _ _ _ _) (m_89_ok _ _ _ _ _ _ _) fun _ im1 lm1 => ?_
      refine zL_eq (d_90_190 _ _ _ _ _ _) ?_
      exact J_90_259_ok   _ _ _ _ _ _ _ _
    · skip
      refine zL_ck fun c1 => ?_
      refine zL_bdv (d_90_207 _ _ _ _ _ _ c1) (m_89_ok _ _ _ _ _ _ _) fun _ im2 lm2 => ?_
      refine zL_bd (d_90_226 _ _ _ _ _ _) (m_88_ok _ _) fun v3 im3 lm3 => ?_
      refine zL_ifm (d_90_249 _ _ _ _ _ _ _ _) (fun h => ?_) (fun h => ?_)
      · repeat rw [if_pos h]
        refine zL_eq (d_90_257 _ _ _ _ _ _ _) ?_
        exact J_90_258_ok   _ _ _ _ _ _ _ _ _ _
      · repeat rw [if_neg h]
        refine zL_eq (d_90_252 _ _ _ _ _ _ _) ?_
        exact J_90_258_ok   _ _ _ _ _ _ _ _ _ _
def J_90_24  (l1 : Int32) (l2 : Int32) (s0 : Int32) (im : zI) (lm : zJ) : zR :=
    if l2 = 1 then
      J_90_55   l1 l2 (im 182 0) im lm
    else
      if l2 = 3 then
        J_90_55   l1 l2 (im 170 13) im lm
      else
        zBd (m_88  im lm) fun v1 im1 lm1 =>
        J_90_55   l1 l2 v1 im1 lm1
theorem J_90_24_ok {B : zeB} (l1 : Int32) (l2 : Int32) (s0 : Int32) (o3 : Option Value) (o4 : Option Value) (o5 : Option Value) (o6 : Option Value) (im : zI) (lm : zJ) : zL B 1 (J_90_24  l1 l2 s0 im lm) (zeRun 90 24 [some (.ref 170), some (.int l1), some (.int l2), o3, o4, o5, o6] [.int s0] (zk B im lm)) := by
  unfold J_90_24
  refine zL_if (d_90_24 _ _ _ _ _ _ _) (fun h => ?_) (fun h => ?_)
  · skip
    refine zL_eq (d_90_30 _ _ _ _ _ _) ?_
    exact J_90_55_ok   _ _ _ _ _ _ _ _ _
  · skip
    refine zL_if (d_90_39 _ _ _ _ _ _) (fun h => ?_) (fun h => ?_)
    · skip
      refine zL_eq (d_90_44 _ _ _ _ _ _) ?_
      exact J_90_55_ok   _ _ _ _ _ _ _ _ _
    · skip
      refine zL_bd (d_90_51 _ _ _ _ _ _) (m_88_ok _ _) fun v1 im1 lm1 => ?_
      exact J_90_55_ok   _ _ _ _ _ _ _ _ _
def m_90 (l1 : Int32) (im : zI) (lm : zJ) : zR :=
    zBd (m_47  im lm) fun _ im1 lm1 =>
    if (im1 171 0) = 1 then
      zBd (m_64  im1 lm1) fun v2 im2 lm2 =>
      J_90_24   l1 (im1 171 0) v2 im2 lm2
    else
      J_90_24   l1 (im1 171 0) 0 im1 lm1
theorem m_90_ok {B : zeB} (l1 : Int32) (im : zI) (lm : zJ) : zL B 1 (m_90 l1 im lm) (zeRun 90 0 [some (.ref 170), some (.int l1), none, none, none, none, none] [] (zk B im lm)) := by
  unfold m_90
  refine zL_bdv (d_90_0 _ _ _ _ _ _) (m_47_ok _ _) fun _ im1 lm1 => ?_
  refine zL_if (d_90_4 _ _ _ _ _ _) (fun h => ?_) (fun h => ?_)
  · skip
    refine zL_bd (d_90_16 _ _ _ _ _ _) (m_64_ok _ _) fun v2 im2 lm2 => ?_
    refine zL_eq (d_90_20 _ _ _ _ _ _ _) ?_
    exact J_90_24_ok   _ _ _ _ _ _ _ _ _
  · skip
    refine zL_eq (d_90_23 _ _ _ _ _ _) ?_
    exact J_90_24_ok   _ _ _ _ _ _ _ _ _
/-! X8_answer -/
theorem d_91_0 {B : zeB} {im : Nat → Nat → Int32} {lm : Nat → Nat → Int64} (l1 : Int32) (o2 : Option Value)  : zeRun 91 0 [some (.ref 170), some (.int l1), o2] [] (zk B im lm) = zeBh 91 4 [some (.ref 170), some (.int l1), o2] [] (zeRun 87 0 [some (.ref 170), none] [] (zk B im lm)) := ze_call (ok := true) rfl 2 rfl rfl rfl
theorem d_91_4 {B : zeB} {im : Nat → Nat → Int32} {lm : Nat → Nat → Int64} (l1 : Int32) (o2 : Option Value) (s0 : Int32)  : zeRun 91 4 [some (.ref 170), some (.int l1), o2] [.int s0] (zk B im lm) = if 0 ≤ s0 then zeRun 91 11 [some (.ref 170), some (.int l1), some (.int s0)] [] (zk B im lm) else zeRun 91 9 [some (.ref 170), some (.int l1), some (.int s0)] [] (zk B im lm) := ze_if (ok := true) rfl 3 rfl rfl
theorem d_91_11 {B : zeB} {im : Nat → Nat → Int32} {lm : Nat → Nat → Int64} (l1 : Int32) (o2 : Option Value)  : zeRun 91 11 [some (.ref 170), some (.int l1), o2] [] (zk B im lm) = zeBh 91 15 [some (.ref 170), some (.int l1), o2] [] (zeRun 25 0 [some (.ref 170), none] [] (zk B im lm)) := ze_call (ok := true) rfl 2 rfl rfl rfl
theorem d_91_15 {B : zeB} {im : Nat → Nat → Int32} {lm : Nat → Nat → Int64} (l1 : Int32) (o2 : Option Value)  : zeRun 91 15 [some (.ref 170), some (.int l1), o2] [] (zk B im lm) = if l1 = 0 then zeRun 91 24 [some (.ref 170), some (.int l1), o2] [.ref 170] (zk B im lm) else zeRun 91 20 [some (.ref 170), some (.int l1), o2] [.ref 170] (zk B im lm) := ze_if (ok := true) rfl 3 rfl rfl
theorem d_91_24 {B : zeB} {im : Nat → Nat → Int32} {lm : Nat → Nat → Int64} (o0 : Option Value) (o1 : Option Value) (o2 : Option Value)  : zeRun 91 24 [o0, o1, o2] [.ref 170] (zk B im lm) = zeRun 91 25 [o0, o1, o2] [.int 0, .ref 170] (zk B im lm) := ze_go (ok := true) rfl 1 rfl rfl
theorem d_91_20 {B : zeB} {im : Nat → Nat → Int32} {lm : Nat → Nat → Int64} (o0 : Option Value) (o1 : Option Value) (o2 : Option Value)  : zeRun 91 20 [o0, o1, o2] [.ref 170] (zk B im lm) = zeRun 91 25 [o0, o1, o2] [.int 1, .ref 170] (zk B im lm) := ze_go (ok := true) rfl 2 rfl rfl
theorem d_91_9 {B : zeB} {im : Nat → Nat → Int32} {lm : Nat → Nat → Int64} (o0 : Option Value) (o1 : Option Value) (l2 : Int32)  : zeRun 91 9 [o0, o1, some (.int l2)] [] (zk B im lm) = some (some (.int l2), (zk B im lm)) := ze_ret (ok := true) rfl 2 rfl rfl
theorem d_91_25 {B : zeB} {im : Nat → Nat → Int32} {lm : Nat → Nat → Int64} (o0 : Option Value) (o1 : Option Value) (o2 : Option Value) (s1 : Int32)  : zeRun 91 25 [o0, o1, o2] [.int s1, .ref 170] (zk B im lm) = zeBh 91 28 [o0, o1, o2] [] (zeRun 90 0 [some (.ref 170), some (.int s1), none, none, none, none, none] [] (zk B im lm)) := ze_call (ok := true) rfl 1 rfl rfl rfl
theorem d_91_28 {B : zeB} {im : Nat → Nat → Int32} {lm : Nat → Nat → Int64} (o0 : Option Value) (o1 : Option Value) (o2 : Option Value) (s0 : Int32)  : zeRun 91 28 [o0, o1, o2] [.int s0] (zk B im lm) = some (some (.int s0), (zk B im lm)) := ze_ret (ok := true) rfl 1 rfl rfl
def J_91_25  (s1 : Int32) (im : zI) (lm : zJ) : zR :=
    zBd (m_90 s1 im lm) fun v1 im1 lm1 =>
    some (v1, im1, lm1)
theorem J_91_25_ok {B : zeB} (s1 : Int32) (o0 : Option Value) (o1 : Option Value) (o2 : Option Value) (im : zI) (lm : zJ) : zL B 1 (J_91_25  s1 im lm) (zeRun 91 25 [o0, o1, o2] [.int s1, .ref 170] (zk B im lm)) := by
  unfold J_91_25
  refine zL_bd (d_91_25 _ _ _ _) (m_90_ok _ _ _) fun v1 im1 lm1 => ?_
  exact zL_ret (d_91_28 _ _ _ _)
def m_91 (l1 : Int32) (im : zI) (lm : zJ) : zR :=
    zBd (m_87  im lm) fun v1 im1 lm1 =>
    if 0 ≤ v1 then
      zBd (m_25  im1 lm1) fun _ im2 lm2 =>
      J_91_25   (if l1 = 0 then 0 else 1) im2 lm2
    else
      some (v1, im1, lm1)
theorem m_91_ok {B : zeB} (l1 : Int32) (im : zI) (lm : zJ) : zL B 1 (m_91 l1 im lm) (zeRun 91 0 [some (.ref 170), some (.int l1), none] [] (zk B im lm)) := by
  unfold m_91
  refine zL_bd (d_91_0 _ _) (m_87_ok _ _) fun v1 im1 lm1 => ?_
  refine zL_if (d_91_4 _ _ _) (fun h => ?_) (fun h => ?_)
  · skip
    refine zL_bdv (d_91_11 _ _) (m_25_ok _ _) fun _ im2 lm2 => ?_
    refine zL_ifm (d_91_15 _ _) (fun h => ?_) (fun h => ?_)
    · repeat rw [if_pos h]
      refine zL_eq (d_91_24 _ _ _) ?_
      exact J_91_25_ok   _ _ _ _ _ _
    · repeat rw [if_neg h]
      refine zL_eq (d_91_20 _ _ _) ?_
      exact J_91_25_ok   _ _ _ _ _ _
  · skip
    exact zL_ret (d_91_9 _ _ _)
/-! X7_doClose -/
theorem d_92_0 {B : zeB} {im : Nat → Nat → Int32} {lm : Nat → Nat → Int64}   : zeRun 92 0 [some (.ref 16)] [] (zk B im lm) = if (im 17 0) = 1 then zeRun 92 17 [some (.ref 16)] [] (zk B im lm) else zeRun 92 11 [some (.ref 16)] [] (zk B im lm) := ze_if (ok := true) rfl 5 rfl rfl
theorem d_92_17 {B : zeB} {im : Nat → Nat → Int32} {lm : Nat → Nat → Int64}   : zeRun 92 17 [some (.ref 16)] [] (zk B im lm) = zeBh 92 38 [some (.ref 16)] [] (zeRun 29 0 [some (.int (im 19 4))] [] (zk B (zeU2 im 17 0 0) lm)) := ze_call (ok := true) rfl 9 rfl rfl rfl
theorem d_92_38 {B : zeB} {im : Nat → Nat → Int32} {lm : Nat → Nat → Int64} (o0 : Option Value) (s0 : Int32)  : zeRun 92 38 [o0] [.int s0] (zk B im lm) = some (some (.int s0), (zk B im lm)) := ze_ret (ok := true) rfl 1 rfl rfl
theorem d_92_11 {B : zeB} {im : Nat → Nat → Int32} {lm : Nat → Nat → Int64}   : zeRun 92 11 [some (.ref 16)] [] (zk B im lm) = zeBh 92 16 [some (.ref 16)] [] (zeRun 17 0 [some (.ref 16), some (.int 1)] [] (zk B im lm)) := ze_call (ok := true) rfl 3 rfl rfl rfl
theorem d_92_16 {B : zeB} {im : Nat → Nat → Int32} {lm : Nat → Nat → Int64} (o0 : Option Value) (s0 : Int32)  : zeRun 92 16 [o0] [.int s0] (zk B im lm) = some (some (.int s0), (zk B im lm)) := ze_ret (ok := true) rfl 1 rfl rfl
def m_92  (im : zI) (lm : zJ) : zR :=
    if (im 17 0) = 1 then
      zBd (m_29 (im 19 4) (zeU2 im 17 0 0) lm) fun v1 im1 lm1 =>
      some (v1, im1, lm1)
    else
      zBd (m_17 1 im lm) fun v2 im2 lm2 =>
      some (v2, im2, lm2)
theorem m_92_ok {B : zeB}  (im : zI) (lm : zJ) : zL B 1 (m_92  im lm) (zeRun 92 0 [some (.ref 16)] [] (zk B im lm)) := by
  unfold m_92
  refine zL_if d_92_0 (fun h => ?_) (fun h => ?_)
  · skip
    refine zL_bd d_92_17 (m_29_ok _ _ _) fun v1 im1 lm1 => ?_
    exact zL_ret (d_92_38 _ _)
  · skip
    refine zL_bd d_92_11 (m_17_ok _ _ _) fun v2 im2 lm2 => ?_
    exact zL_ret (d_92_16 _ _)
/-! X7_close -/
theorem d_93_0 {B : zeB} {im : Nat → Nat → Int32} {lm : Nat → Nat → Int64}   : zeRun 93 0 [some (.ref 16)] [] (zk B im lm) = zeBh 93 11 [some (.ref 16)] [] (zeRun 15 0 [some (.ref 42), some (.ref 17)] [] (zk B im lm)) := ze_call (ok := true) rfl 5 rfl rfl rfl
theorem d_93_11 {B : zeB} {im : Nat → Nat → Int32} {lm : Nat → Nat → Int64}   : zeRun 93 11 [some (.ref 16)] [] (zk B im lm) = zeBh 93 16 [some (.ref 16)] [.ref 16] (zeRun 92 0 [some (.ref 16)] [] (zk B im lm)) := ze_call (ok := true) rfl 3 rfl rfl rfl
theorem d_93_16 {B : zeB} {im : Nat → Nat → Int32} {lm : Nat → Nat → Int64} (o0 : Option Value) (s1 : Int32)  : zeRun 93 16 [o0] [.int s1, .ref 16] (zk B im lm) = zeBh 93 19 [o0] [] (zeRun 21 0 [some (.ref 16), some (.int s1)] [] (zk B im lm)) := ze_call (ok := true) rfl 1 rfl rfl rfl
theorem d_93_19 {B : zeB} {im : Nat → Nat → Int32} {lm : Nat → Nat → Int64} (o0 : Option Value) (s0 : Int32)  : zeRun 93 19 [o0] [.int s0] (zk B im lm) = some (some (.int s0), (zk B im lm)) := ze_ret (ok := true) rfl 1 rfl rfl
def m_93  (im : zI) (lm : zJ) : zR :=
    zBd (m_15  im lm) fun _ im1 lm1 =>
    zBd (m_92  im1 lm1) fun v2 im2 lm2 =>
    zBd (m_21 v2 im2 lm2) fun v3 im3 lm3 =>
    some (v3, im3, lm3)
theorem m_93_ok {B : zeB}  (im : zI) (lm : zJ) : zL B 1 (m_93  im lm) (zeRun 93 0 [some (.ref 16)] [] (zk B im lm)) := by
  unfold m_93
  refine zL_bdv d_93_0 (m_15_ok _ _) fun _ im1 lm1 => ?_
  refine zL_bd d_93_11 (m_92_ok _ _) fun v2 im2 lm2 => ?_
  refine zL_bd (d_93_16 _ _) (m_21_ok _ _ _) fun v3 im3 lm3 => ?_
  exact zL_ret (d_93_19 _ _)
/-! X8_checkClose -/
theorem d_94_0 {B : zeB} {im : Nat → Nat → Int32} {lm : Nat → Nat → Int64}   : zeRun 94 0 [some (.ref 170)] [] (zk B im lm) = if (im 171 0) = 1 then zeRun 94 10 [some (.ref 170)] [] (zk B im lm) else zeRun 94 14 [some (.ref 170)] [] (zk B im lm) := ze_if (ok := true) rfl 6 rfl rfl
theorem d_94_10 {B : zeB} {im : Nat → Nat → Int32} {lm : Nat → Nat → Int64} (o0 : Option Value)  : zeRun 94 10 [o0] [] (zk B im lm) = some (some (.int 0), (zk B im lm)) := ze_ret (ok := true) rfl 3 rfl rfl
theorem d_94_14 {B : zeB} {im : Nat → Nat → Int32} {lm : Nat → Nat → Int64}   : zeRun 94 14 [some (.ref 170)] [] (zk B im lm) = zeBh 94 19 [some (.ref 170)] [] (zeRun 24 0 [some (.ref 170), some (.int 1)] [] (zk B im lm)) := ze_call (ok := true) rfl 3 rfl rfl rfl
theorem d_94_19 {B : zeB} {im : Nat → Nat → Int32} {lm : Nat → Nat → Int64} (o0 : Option Value) (s0 : Int32)  : zeRun 94 19 [o0] [.int s0] (zk B im lm) = some (some (.int s0), (zk B im lm)) := ze_ret (ok := true) rfl 1 rfl rfl
def m_94  (im : zI) (lm : zJ) : zR :=
    if (im 171 0) = 1 then
      some (0, im, lm)
    else
      zBd (m_24 1 im lm) fun v1 im1 lm1 =>
      some (v1, im1, lm1)
theorem m_94_ok {B : zeB}  (im : zI) (lm : zJ) : zL B 1 (m_94  im lm) (zeRun 94 0 [some (.ref 170)] [] (zk B im lm)) := by
  unfold m_94
  refine zL_if d_94_0 (fun h => ?_) (fun h => ?_)
  · skip
    exact zL_ret (d_94_10 _)
  · skip
    refine zL_bd d_94_14 (m_24_ok _ _ _) fun v1 im1 lm1 => ?_
    exact zL_ret (d_94_19 _ _)
/-! X8_closes -/
theorem d_95_0 {B : zeB} {im : Nat → Nat → Int32} {lm : Nat → Nat → Int64}   : zeRun 95 0 [some (.ref 170)] [] (zk B im lm) = zeBh 95 24 [some (.ref 170)] [] (zeRun 33 0 [some (.int (im 171 14)), none, none] [] (zk B (zeU2 (zeU2 im 171 0 0) 171 2 (-1)) lm)) := ze_call (ok := true) rfl 15 rfl rfl rfl
theorem d_95_24 {B : zeB} {im : Nat → Nat → Int32} {lm : Nat → Nat → Int64} (o0 : Option Value) (s0 : Int32)  : zeRun 95 24 [o0] [.int s0] (zk B im lm) = some (some (.int s0), (zk B im lm)) := ze_ret (ok := true) rfl 1 rfl rfl
def m_95  (im : zI) (lm : zJ) : zR :=
    zBd (m_33 (im 171 14) (zeU2 (zeU2 im 171 0 0) 171 2 (-1)) lm) fun v1 im1 lm1 =>
    some (v1, im1, lm1)
theorem m_95_ok {B : zeB}  (im : zI) (lm : zJ) : zL B 1 (m_95  im lm) (zeRun 95 0 [some (.ref 170)] [] (zk B im lm)) := by
  unfold m_95
  refine zL_bd d_95_0 (m_33_ok _ _ _) fun v1 im1 lm1 => ?_
  exact zL_ret (d_95_24 _ _)
/-! X8_close -/
theorem d_96_0 {B : zeB} {im : Nat → Nat → Int32} {lm : Nat → Nat → Int64} (o1 : Option Value)  : zeRun 96 0 [some (.ref 170), o1] [] (zk B im lm) = zeBh 96 4 [some (.ref 170), o1] [] (zeRun 94 0 [some (.ref 170)] [] (zk B im lm)) := ze_call (ok := true) rfl 2 rfl rfl rfl
theorem d_96_4 {B : zeB} {im : Nat → Nat → Int32} {lm : Nat → Nat → Int64} (o1 : Option Value) (s0 : Int32)  : zeRun 96 4 [some (.ref 170), o1] [.int s0] (zk B im lm) = if 0 ≤ s0 then zeRun 96 11 [some (.ref 170), some (.int s0)] [] (zk B im lm) else zeRun 96 9 [some (.ref 170), some (.int s0)] [] (zk B im lm) := ze_if (ok := true) rfl 3 rfl rfl
theorem d_96_11 {B : zeB} {im : Nat → Nat → Int32} {lm : Nat → Nat → Int64} (o1 : Option Value)  : zeRun 96 11 [some (.ref 170), o1] [] (zk B im lm) = zeBh 96 15 [some (.ref 170), o1] [] (zeRun 25 0 [some (.ref 170), none] [] (zk B im lm)) := ze_call (ok := true) rfl 2 rfl rfl rfl
theorem d_96_15 {B : zeB} {im : Nat → Nat → Int32} {lm : Nat → Nat → Int64} (o1 : Option Value)  : zeRun 96 15 [some (.ref 170), o1] [] (zk B im lm) = zeBh 96 19 [some (.ref 170), o1] [] (zeRun 95 0 [some (.ref 170)] [] (zk B im lm)) := ze_call (ok := true) rfl 2 rfl rfl rfl
theorem d_96_19 {B : zeB} {im : Nat → Nat → Int32} {lm : Nat → Nat → Int64} (o0 : Option Value) (o1 : Option Value) (s0 : Int32)  : zeRun 96 19 [o0, o1] [.int s0] (zk B im lm) = some (some (.int s0), (zk B im lm)) := ze_ret (ok := true) rfl 1 rfl rfl
theorem d_96_9 {B : zeB} {im : Nat → Nat → Int32} {lm : Nat → Nat → Int64} (o0 : Option Value) (l1 : Int32)  : zeRun 96 9 [o0, some (.int l1)] [] (zk B im lm) = some (some (.int l1), (zk B im lm)) := ze_ret (ok := true) rfl 2 rfl rfl
def m_96  (im : zI) (lm : zJ) : zR :=
    zBd (m_94  im lm) fun v1 im1 lm1 =>
    if 0 ≤ v1 then
      zBd (m_25  im1 lm1) fun _ im2 lm2 =>
      zBd (m_95  im2 lm2) fun v3 im3 lm3 =>
      some (v3, im3, lm3)
    else
      some (v1, im1, lm1)
theorem m_96_ok {B : zeB}  (im : zI) (lm : zJ) : zL B 1 (m_96  im lm) (zeRun 96 0 [some (.ref 170), none] [] (zk B im lm)) := by
  unfold m_96
  refine zL_bd (d_96_0 _) (m_94_ok _ _) fun v1 im1 lm1 => ?_
  refine zL_if (d_96_4 _ _) (fun h => ?_) (fun h => ?_)
  · skip
    refine zL_bdv (d_96_11 _) (m_25_ok _ _) fun _ im2 lm2 => ?_
    refine zL_bd (d_96_15 _) (m_95_ok _ _) fun v3 im3 lm3 => ?_
    exact zL_ret (d_96_19 _ _ _)
  · skip
    exact zL_ret (d_96_9 _ _)
/-! X7_doWager -/
theorem d_97_0 {B : zeB} {im : Nat → Nat → Int32} {lm : Nat → Nat → Int64} (l1 : Int32) (o2 : Option Value)  : zeRun 97 0 [some (.ref 16), some (.int l1), o2] [] (zk B im lm) = if l1 < 0 then zeRun 97 11 [some (.ref 16), some (.int l1), o2] [] (zk B im lm) else zeRun 97 4 [some (.ref 16), some (.int l1), o2] [] (zk B im lm) := ze_if (ok := true) rfl 2 rfl rfl
theorem d_97_11 {B : zeB} {im : Nat → Nat → Int32} {lm : Nat → Nat → Int64} (o0 : Option Value) (o1 : Option Value) (o2 : Option Value)  : zeRun 97 11 [o0, o1, o2] [] (zk B im lm) = some (some (.int (-10000002)), (zk B im lm)) := ze_ret (ok := true) rfl 2 rfl rfl
theorem d_97_4 {B : zeB} {im : Nat → Nat → Int32} {lm : Nat → Nat → Int64} (l1 : Int32) (o2 : Option Value)  : zeRun 97 4 [some (.ref 16), some (.int l1), o2] [] (zk B im lm) = if l1 ≤ 100000 then zeRun 97 14 [some (.ref 16), some (.int l1), o2] [] (zk B im lm) else zeRun 97 11 [some (.ref 16), some (.int l1), o2] [] (zk B im lm) := ze_if (ok := true) rfl 3 rfl rfl
theorem d_97_14 {B : zeB} {im : Nat → Nat → Int32} {lm : Nat → Nat → Int64} (l1 : Int32) (o2 : Option Value)  : zeRun 97 14 [some (.ref 16), some (.int l1), o2] [] (zk B im lm) = if (im 17 0) = 2 then zeRun 97 31 [some (.ref 16), some (.int l1), o2] [] (zk B im lm) else zeRun 97 25 [some (.ref 16), some (.int l1), o2] [] (zk B im lm) := ze_if (ok := true) rfl 5 rfl rfl
theorem d_97_31 {B : zeB} {im : Nat → Nat → Int32} {lm : Nat → Nat → Int64} (l1 : Int32) (o2 : Option Value) (c0 : zeInb (im 32 0) 6 = true) : zeRun 97 31 [some (.ref 16), some (.int l1), o2] [] (zk B im lm) = if l1 ≤ (if (im 33 (Int32.toNatClampNeg (im 32 0))) < 500 then 500 else (im 33 (Int32.toNatClampNeg (im 32 0)))) then zeRun 97 64 [some (.ref 16), some (.int l1), some (.int (if (im 33 (Int32.toNatClampNeg (im 32 0))) < 500 then 500 else (im 33 (Int32.toNatClampNeg (im 32 0)))))] [] (zk B im lm) else zeRun 97 58 [some (.ref 16), some (.int l1), some (.int (if (im 33 (Int32.toNatClampNeg (im 32 0))) < 500 then 500 else (im 33 (Int32.toNatClampNeg (im 32 0)))))] [] (zk B im lm) := ze_if (ok := (zeInb (im 32 0) 6 && true)) rfl 13 rfl (zeA2 c0 rfl)
theorem d_97_64 {B : zeB} {im : Nat → Nat → Int32} {lm : Nat → Nat → Int64} (l1 : Int32) (l2 : Int32)  : zeRun 97 64 [some (.ref 16), some (.int l1), some (.int l2)] [] (zk B im lm) = some (some (.int l2), (zk B (zeU2 (zeU2 im 19 3 l1) 17 0 3) lm)) := ze_ret (ok := true) rfl 11 rfl rfl
theorem d_97_58 {B : zeB} {im : Nat → Nat → Int32} {lm : Nat → Nat → Int64} (o1 : Option Value) (o2 : Option Value)  : zeRun 97 58 [some (.ref 16), o1, o2] [] (zk B im lm) = zeBh 97 63 [some (.ref 16), o1, o2] [] (zeRun 17 0 [some (.ref 16), some (.int 5)] [] (zk B im lm)) := ze_call (ok := true) rfl 3 rfl rfl rfl
theorem d_97_63 {B : zeB} {im : Nat → Nat → Int32} {lm : Nat → Nat → Int64} (o0 : Option Value) (o1 : Option Value) (o2 : Option Value) (s0 : Int32)  : zeRun 97 63 [o0, o1, o2] [.int s0] (zk B im lm) = some (some (.int s0), (zk B im lm)) := ze_ret (ok := true) rfl 1 rfl rfl
theorem d_97_25 {B : zeB} {im : Nat → Nat → Int32} {lm : Nat → Nat → Int64} (o1 : Option Value) (o2 : Option Value)  : zeRun 97 25 [some (.ref 16), o1, o2] [] (zk B im lm) = zeBh 97 30 [some (.ref 16), o1, o2] [] (zeRun 17 0 [some (.ref 16), some (.int 1)] [] (zk B im lm)) := ze_call (ok := true) rfl 3 rfl rfl rfl
theorem d_97_30 {B : zeB} {im : Nat → Nat → Int32} {lm : Nat → Nat → Int64} (o0 : Option Value) (o1 : Option Value) (o2 : Option Value) (s0 : Int32)  : zeRun 97 30 [o0, o1, o2] [.int s0] (zk B im lm) = some (some (.int s0), (zk B im lm)) := ze_ret (ok := true) rfl 1 rfl rfl
def m_97 (l1 : Int32) (im : zI) (lm : zJ) : zR :=
    if l1 < 0 then
      some ((-10000002), im, lm)
    else
      if l1 ≤ 100000 then
        if (im 17 0) = 2 then
          zCk (zeInb (im 32 0) 6) <|
          if l1 ≤ (if (im 33 (Int32.toNatClampNeg (im 32 0))) < 500 then 500 else (im 33 (Int32.toNatClampNeg (im 32 0)))) then
            some ((if (im 33 (Int32.toNatClampNeg (im 32 0))) < 500 then 500 else (im 33 (Int32.toNatClampNeg (im 32 0)))), (zeU2 (zeU2 im 19 3 l1) 17 0 3), lm)
          else
            zBd (m_17 5 im lm) fun v1 im1 lm1 =>
            some (v1, im1, lm1)
        else
          zBd (m_17 1 im lm) fun v2 im2 lm2 =>
          some (v2, im2, lm2)
      else
        some ((-10000002), im, lm)
theorem m_97_ok {B : zeB} (l1 : Int32) (im : zI) (lm : zJ) : zL B 1 (m_97 l1 im lm) (zeRun 97 0 [some (.ref 16), some (.int l1), none] [] (zk B im lm)) := by
  unfold m_97
  refine zL_if (d_97_0 _ _) (fun h => ?_) (fun h => ?_)
  · skip
    exact zL_ret (d_97_11 _ _ _)
  · skip
    refine zL_if (d_97_4 _ _) (fun h => ?_) (fun h => ?_)
    · skip
      refine zL_if (d_97_14 _ _) (fun h => ?_) (fun h => ?_)
      · skip
        refine zL_ck fun c1 => ?_
        refine zL_if (d_97_31 _ _ c1) (fun h => ?_) (fun h => ?_)
        · skip
          exact zL_ret (d_97_64 _ _)
        · skip
          refine zL_bd (d_97_58 _ _) (m_17_ok _ _ _) fun v1 im1 lm1 => ?_
          exact zL_ret (d_97_63 _ _ _ _)
      · skip
        refine zL_bd (d_97_25 _ _) (m_17_ok _ _ _) fun v2 im2 lm2 => ?_
        exact zL_ret (d_97_30 _ _ _ _)
    · skip
      exact zL_ret (d_97_11 _ _ _)
/-! X7_wager -/
theorem d_98_0 {B : zeB} {im : Nat → Nat → Int32} {lm : Nat → Nat → Int64} (l1 : Int32)  : zeRun 98 0 [some (.ref 16), some (.int l1)] [] (zk B im lm) = zeBh 98 11 [some (.ref 16), some (.int l1)] [] (zeRun 15 0 [some (.ref 42), some (.ref 17)] [] (zk B im lm)) := ze_call (ok := true) rfl 5 rfl rfl rfl
theorem d_98_11 {B : zeB} {im : Nat → Nat → Int32} {lm : Nat → Nat → Int64} (l1 : Int32)  : zeRun 98 11 [some (.ref 16), some (.int l1)] [] (zk B im lm) = zeBh 98 17 [some (.ref 16), some (.int l1)] [.ref 16] (zeRun 97 0 [some (.ref 16), some (.int l1), none] [] (zk B im lm)) := ze_call (ok := true) rfl 4 rfl rfl rfl
theorem d_98_17 {B : zeB} {im : Nat → Nat → Int32} {lm : Nat → Nat → Int64} (o0 : Option Value) (o1 : Option Value) (s1 : Int32)  : zeRun 98 17 [o0, o1] [.int s1, .ref 16] (zk B im lm) = zeBh 98 20 [o0, o1] [] (zeRun 21 0 [some (.ref 16), some (.int s1)] [] (zk B im lm)) := ze_call (ok := true) rfl 1 rfl rfl rfl
theorem d_98_20 {B : zeB} {im : Nat → Nat → Int32} {lm : Nat → Nat → Int64} (o0 : Option Value) (o1 : Option Value) (s0 : Int32)  : zeRun 98 20 [o0, o1] [.int s0] (zk B im lm) = some (some (.int s0), (zk B im lm)) := ze_ret (ok := true) rfl 1 rfl rfl
def m_98 (l1 : Int32) (im : zI) (lm : zJ) : zR :=
    zBd (m_15  im lm) fun _ im1 lm1 =>
    zBd (m_97 l1 im1 lm1) fun v2 im2 lm2 =>
    zBd (m_21 v2 im2 lm2) fun v3 im3 lm3 =>
    some (v3, im3, lm3)
theorem m_98_ok {B : zeB} (l1 : Int32) (im : zI) (lm : zJ) : zL B 1 (m_98 l1 im lm) (zeRun 98 0 [some (.ref 16), some (.int l1)] [] (zk B im lm)) := by
  unfold m_98
  refine zL_bdv (d_98_0 _) (m_15_ok _ _) fun _ im1 lm1 => ?_
  refine zL_bd (d_98_11 _) (m_97_ok _ _ _) fun v2 im2 lm2 => ?_
  refine zL_bd (d_98_17 _ _ _) (m_21_ok _ _ _) fun v3 im3 lm3 => ?_
  exact zL_ret (d_98_20 _ _ _)
/-! X8_limit -/
theorem d_99_0 {B : zeB} {im : Nat → Nat → Int32} {lm : Nat → Nat → Int64}   : zeRun 99 0 [some (.ref 170)] [] (zk B im lm) = zeBh 99 4 [some (.ref 170)] [] (zeRun 47 0 [some (.ref 170), none, none, none, none, none, none] [] (zk B im lm)) := ze_call (ok := true) rfl 2 rfl rfl rfl
theorem d_99_4 {B : zeB} {im : Nat → Nat → Int32} {lm : Nat → Nat → Int64}  (c0 : zeInb (im 170 13) 6 = true) : zeRun 99 4 [some (.ref 170)] [] (zk B im lm) = if (im 175 (Int32.toNatClampNeg (im 170 13))) ≤ 500 then zeRun 99 31 [some (.ref 170)] [] (zk B im lm) else zeRun 99 19 [some (.ref 170)] [] (zk B im lm) := ze_if (ok := (zeInb (im 170 13) 6 && true)) rfl 7 rfl (zeA2 c0 rfl)
theorem d_99_31 {B : zeB} {im : Nat → Nat → Int32} {lm : Nat → Nat → Int64} (o0 : Option Value)  : zeRun 99 31 [o0] [] (zk B im lm) = some (some (.int 500), (zk B im lm)) := ze_ret (ok := true) rfl 2 rfl rfl
theorem d_99_19 {B : zeB} {im : Nat → Nat → Int32} {lm : Nat → Nat → Int64}  (c0 : zeInb (im 170 13) 6 = true) : zeRun 99 19 [some (.ref 170)] [] (zk B im lm) = some (some (.int (im 175 (Int32.toNatClampNeg (im 170 13)))), (zk B im lm)) := ze_ret (ok := (zeInb (im 170 13) 6 && true)) rfl 7 rfl (zeA2 c0 rfl)
def m_99  (im : zI) (lm : zJ) : zR :=
    zBd (m_47  im lm) fun _ im1 lm1 =>
    zCk (zeInb (im1 170 13) 6) <|
    some (if (im1 175 (Int32.toNatClampNeg (im1 170 13))) ≤ 500 then 500 else (im1 175 (Int32.toNatClampNeg (im1 170 13))), im1, lm1)
theorem m_99_ok {B : zeB}  (im : zI) (lm : zJ) : zL B 1 (m_99  im lm) (zeRun 99 0 [some (.ref 170)] [] (zk B im lm)) := by
  unfold m_99
  refine zL_bdv d_99_0 (m_47_ok _ _) fun _ im1 lm1 => ?_
  refine zL_ck fun c1 => ?_
  refine zL_ifm (d_99_4 c1) (fun h => ?_) (fun h => ?_)
  · repeat rw [if_pos h]
    exact zL_ret (d_99_31 _)
  · repeat rw [if_neg h]
    exact zL_ret (d_99_19 c1)
/-! X8_checkWager -/
theorem d_100_0 {B : zeB} {im : Nat → Nat → Int32} {lm : Nat → Nat → Int64} (l1 : Int32)  : zeRun 100 0 [some (.ref 170), some (.int l1)] [] (zk B im lm) = zeBh 100 7 [some (.ref 170), some (.int l1)] [] (zeRun 32 0 [some (.int l1), some (.int 0), some (.int 100000)] [] (zk B im lm)) := ze_call (ok := true) rfl 4 rfl rfl rfl
theorem d_100_7 {B : zeB} {im : Nat → Nat → Int32} {lm : Nat → Nat → Int64} (l1 : Int32) (s0 : Int32)  : zeRun 100 7 [some (.ref 170), some (.int l1)] [.int s0] (zk B im lm) = if s0 = 0 then zeRun 100 10 [some (.ref 170), some (.int l1)] [] (zk B im lm) else zeRun 100 13 [some (.ref 170), some (.int l1)] [] (zk B im lm) := ze_if (ok := true) rfl 1 rfl rfl
theorem d_100_10 {B : zeB} {im : Nat → Nat → Int32} {lm : Nat → Nat → Int64} (o0 : Option Value) (o1 : Option Value)  : zeRun 100 10 [o0, o1] [] (zk B im lm) = some (some (.int (-10000002)), (zk B im lm)) := ze_ret (ok := true) rfl 2 rfl rfl
theorem d_100_13 {B : zeB} {im : Nat → Nat → Int32} {lm : Nat → Nat → Int64} (l1 : Int32)  : zeRun 100 13 [some (.ref 170), some (.int l1)] [] (zk B im lm) = if (im 171 0) = 2 then zeRun 100 29 [some (.ref 170), some (.int l1)] [] (zk B im lm) else zeRun 100 23 [some (.ref 170), some (.int l1)] [] (zk B im lm) := ze_if (ok := true) rfl 6 rfl rfl
theorem d_100_29 {B : zeB} {im : Nat → Nat → Int32} {lm : Nat → Nat → Int64} (l1 : Int32)  : zeRun 100 29 [some (.ref 170), some (.int l1)] [] (zk B im lm) = zeBh 100 34 [some (.ref 170), some (.int l1)] [.int l1] (zeRun 99 0 [some (.ref 170)] [] (zk B im lm)) := ze_call (ok := true) rfl 3 rfl rfl rfl
theorem d_100_34 {B : zeB} {im : Nat → Nat → Int32} {lm : Nat → Nat → Int64} (o1 : Option Value) (s0 : Int32) (s1 : Int32)  : zeRun 100 34 [some (.ref 170), o1] [.int s1, .int s0] (zk B im lm) = if s0 ≤ s1 then zeRun 100 45 [some (.ref 170), o1] [] (zk B im lm) else zeRun 100 37 [some (.ref 170), o1] [] (zk B im lm) := ze_if (ok := true) rfl 1 rfl rfl
theorem d_100_45 {B : zeB} {im : Nat → Nat → Int32} {lm : Nat → Nat → Int64} (o0 : Option Value) (o1 : Option Value)  : zeRun 100 45 [o0, o1] [] (zk B im lm) = some (some (.int 0), (zk B im lm)) := ze_ret (ok := true) rfl 2 rfl rfl
theorem d_100_37 {B : zeB} {im : Nat → Nat → Int32} {lm : Nat → Nat → Int64} (o1 : Option Value)  : zeRun 100 37 [some (.ref 170), o1] [] (zk B im lm) = zeBh 100 42 [some (.ref 170), o1] [] (zeRun 24 0 [some (.ref 170), some (.int 5)] [] (zk B im lm)) := ze_call (ok := true) rfl 3 rfl rfl rfl
theorem d_100_42 {B : zeB} {im : Nat → Nat → Int32} {lm : Nat → Nat → Int64} (o0 : Option Value) (o1 : Option Value) (s0 : Int32)  : zeRun 100 42 [o0, o1] [.int s0] (zk B im lm) = some (some (.int s0), (zk B im lm)) := ze_ret (ok := true) rfl 2 rfl rfl
theorem d_100_23 {B : zeB} {im : Nat → Nat → Int32} {lm : Nat → Nat → Int64} (o1 : Option Value)  : zeRun 100 23 [some (.ref 170), o1] [] (zk B im lm) = zeBh 100 28 [some (.ref 170), o1] [] (zeRun 24 0 [some (.ref 170), some (.int 1)] [] (zk B im lm)) := ze_call (ok := true) rfl 3 rfl rfl rfl
theorem d_100_28 {B : zeB} {im : Nat → Nat → Int32} {lm : Nat → Nat → Int64} (o0 : Option Value) (o1 : Option Value) (s0 : Int32)  : zeRun 100 28 [o0, o1] [.int s0] (zk B im lm) = some (some (.int s0), (zk B im lm)) := ze_ret (ok := true) rfl 1 rfl rfl
def m_100 (l1 : Int32) (im : zI) (lm : zJ) : zR :=
    if (if l1 < 0 then 0 else if 100000 < l1 then 0 else 1 : Int32) = 0 then
      some ((-10000002), im, lm)
    else
      if (im 171 0) = 2 then
        zBd (m_99  im lm) fun v2 im2 lm2 =>
        if l1 ≤ v2 then
          some (0, im2, lm2)
        else
          zBd (m_24 5 im2 lm2) fun v3 im3 lm3 =>
          some (v3, im3, lm3)
      else
        zBd (m_24 1 im lm) fun v4 im4 lm4 =>
        some (v4, im4, lm4)
theorem m_100_ok {B : zeB} (l1 : Int32) (im : zI) (lm : zJ) : zL B 1 (m_100 l1 im lm) (zeRun 100 0 [some (.ref 170), some (.int l1)] [] (zk B im lm)) := by
  unfold m_100
  refine zL_bdp (e := (if l1 < 0 then 0 else if 100000 < l1 then 0 else 1 : Int32)) (d_100_0 _) (m_32_ok _ _ _ _ _) ?_
  refine zL_if (d_100_7 _ _) (fun h => ?_) (fun h => ?_)
  · skip
    exact zL_ret (d_100_10 _ _)
  · skip
    refine zL_if (d_100_13 _) (fun h => ?_) (fun h => ?_)
    · skip
      refine zL_bd (d_100_29 _) (m_99_ok _ _) fun v2 im2 lm2 => ?_
      refine zL_if (d_100_34 _ _ _) (fun h => ?_) (fun h => ?_)
      · skip
        exact zL_ret (d_100_45 _ _)
      · skip
        refine zL_bd (d_100_37 _) (m_24_ok _ _ _) fun v3 im3 lm3 => ?_
        exact zL_ret (d_100_42 _ _ _)
    · skip
      refine zL_bd (d_100_23 _) (m_24_ok _ _ _) fun v4 im4 lm4 => ?_
      exact zL_ret (d_100_28 _ _ _)
/-! X8_tellsWager -/
theorem d_101_0 {B : zeB} {im : Nat → Nat → Int32} {lm : Nat → Nat → Int64} (l1 : Int32)  : zeRun 101 0 [some (.ref 170), some (.int l1)] [] (zk B im lm) = zeBh 101 19 [some (.ref 170), some (.int l1)] [] (zeRun 99 0 [some (.ref 170)] [] (zk B (zeU2 (zeU2 im 171 12 l1) 171 0 3) lm)) := ze_call (ok := true) rfl 12 rfl rfl rfl
theorem d_101_19 {B : zeB} {im : Nat → Nat → Int32} {lm : Nat → Nat → Int64} (o0 : Option Value) (o1 : Option Value) (s0 : Int32)  : zeRun 101 19 [o0, o1] [.int s0] (zk B im lm) = some (some (.int s0), (zk B im lm)) := ze_ret (ok := true) rfl 1 rfl rfl
def m_101 (l1 : Int32) (im : zI) (lm : zJ) : zR :=
    zBd (m_99  (zeU2 (zeU2 im 171 12 l1) 171 0 3) lm) fun v1 im1 lm1 =>
    some (v1, im1, lm1)
theorem m_101_ok {B : zeB} (l1 : Int32) (im : zI) (lm : zJ) : zL B 1 (m_101 l1 im lm) (zeRun 101 0 [some (.ref 170), some (.int l1)] [] (zk B im lm)) := by
  unfold m_101
  refine zL_bd (d_101_0 _) (m_99_ok _ _) fun v1 im1 lm1 => ?_
  exact zL_ret (d_101_19 _ _ _)
/-! X8_wager -/
theorem d_102_0 {B : zeB} {im : Nat → Nat → Int32} {lm : Nat → Nat → Int64} (l1 : Int32) (o2 : Option Value)  : zeRun 102 0 [some (.ref 170), some (.int l1), o2] [] (zk B im lm) = zeBh 102 5 [some (.ref 170), some (.int l1), o2] [] (zeRun 100 0 [some (.ref 170), some (.int l1)] [] (zk B im lm)) := ze_call (ok := true) rfl 3 rfl rfl rfl
theorem d_102_5 {B : zeB} {im : Nat → Nat → Int32} {lm : Nat → Nat → Int64} (l1 : Int32) (o2 : Option Value) (s0 : Int32)  : zeRun 102 5 [some (.ref 170), some (.int l1), o2] [.int s0] (zk B im lm) = if 0 ≤ s0 then zeRun 102 12 [some (.ref 170), some (.int l1), some (.int s0)] [] (zk B im lm) else zeRun 102 10 [some (.ref 170), some (.int l1), some (.int s0)] [] (zk B im lm) := ze_if (ok := true) rfl 3 rfl rfl
theorem d_102_12 {B : zeB} {im : Nat → Nat → Int32} {lm : Nat → Nat → Int64} (l1 : Int32) (o2 : Option Value)  : zeRun 102 12 [some (.ref 170), some (.int l1), o2] [] (zk B im lm) = zeBh 102 16 [some (.ref 170), some (.int l1), o2] [] (zeRun 25 0 [some (.ref 170), none] [] (zk B im lm)) := ze_call (ok := true) rfl 2 rfl rfl rfl
theorem d_102_16 {B : zeB} {im : Nat → Nat → Int32} {lm : Nat → Nat → Int64} (l1 : Int32) (o2 : Option Value)  : zeRun 102 16 [some (.ref 170), some (.int l1), o2] [] (zk B im lm) = zeBh 102 21 [some (.ref 170), some (.int l1), o2] [] (zeRun 101 0 [some (.ref 170), some (.int l1)] [] (zk B im lm)) := ze_call (ok := true) rfl 3 rfl rfl rfl
theorem d_102_21 {B : zeB} {im : Nat → Nat → Int32} {lm : Nat → Nat → Int64} (o0 : Option Value) (o1 : Option Value) (o2 : Option Value) (s0 : Int32)  : zeRun 102 21 [o0, o1, o2] [.int s0] (zk B im lm) = some (some (.int s0), (zk B im lm)) := ze_ret (ok := true) rfl 1 rfl rfl
theorem d_102_10 {B : zeB} {im : Nat → Nat → Int32} {lm : Nat → Nat → Int64} (o0 : Option Value) (o1 : Option Value) (l2 : Int32)  : zeRun 102 10 [o0, o1, some (.int l2)] [] (zk B im lm) = some (some (.int l2), (zk B im lm)) := ze_ret (ok := true) rfl 2 rfl rfl
def m_102 (l1 : Int32) (im : zI) (lm : zJ) : zR :=
    zBd (m_100 l1 im lm) fun v1 im1 lm1 =>
    if 0 ≤ v1 then
      zBd (m_25  im1 lm1) fun _ im2 lm2 =>
      zBd (m_101 l1 im2 lm2) fun v3 im3 lm3 =>
      some (v3, im3, lm3)
    else
      some (v1, im1, lm1)
theorem m_102_ok {B : zeB} (l1 : Int32) (im : zI) (lm : zJ) : zL B 1 (m_102 l1 im lm) (zeRun 102 0 [some (.ref 170), some (.int l1), none] [] (zk B im lm)) := by
  unfold m_102
  refine zL_bd (d_102_0 _ _) (m_100_ok _ _ _) fun v1 im1 lm1 => ?_
  refine zL_if (d_102_5 _ _ _) (fun h => ?_) (fun h => ?_)
  · skip
    refine zL_bdv (d_102_12 _ _) (m_25_ok _ _) fun _ im2 lm2 => ?_
    refine zL_bd (d_102_16 _ _) (m_101_ok _ _ _) fun v3 im3 lm3 => ?_
    exact zL_ret (d_102_21 _ _ _ _)
  · skip
    exact zL_ret (d_102_10 _ _ _)
/-! X0_begin -/
theorem d_103_0 {B : zeB} {im : Nat → Nat → Int32} {lm : Nat → Nat → Int64} (o2 : Option Value)  : zeRun 103 0 [some (.ref 23), some (.ref 33), o2] [] (zk B im lm) = zeRun 103 2 [some (.ref 23), some (.ref 33), some (.int 0)] [] (zk B im lm) := ze_go (ok := true) rfl 2 rfl rfl
theorem d_103_2 {B : zeB} {im : Nat → Nat → Int32} {lm : Nat → Nat → Int64} (l2 : Int32)  : zeRun 103 2 [some (.ref 23), some (.ref 33), some (.int l2)] [] (zk B im lm) = if 6 ≤ l2 then zeRun 103 27 [some (.ref 23), some (.ref 33), some (.int l2)] [] (zk B im lm) else zeRun 103 8 [some (.ref 23), some (.ref 33), some (.int l2)] [] (zk B im lm) := ze_if (ok := true) rfl 3 rfl rfl
theorem d_103_27 {B : zeB} {im : Nat → Nat → Int32} {lm : Nat → Nat → Int64} (o0 : Option Value) (o1 : Option Value) (o2 : Option Value)  : zeRun 103 27 [o0, o1, o2] [] (zk B im lm) = some (none, (zk B im lm)) := ze_ret (ok := true) rfl 1 rfl rfl
theorem d_103_8 {B : zeB} {im : Nat → Nat → Int32} {lm : Nat → Nat → Int64} (l2 : Int32) (c0 : zeInb l2 6 = true) (c1 : zeInb l2 6 = true) : zeRun 103 8 [some (.ref 23), some (.ref 33), some (.int l2)] [] (zk B im lm) = zeRun 103 2 [some (.ref 23), some (.ref 33), some (.int (l2 + 1))] [] (zk B (zeU2 im 24 (Int32.toNatClampNeg l2) (if (im 33 (Int32.toNatClampNeg l2)) < 0 then 0 else (im 33 (Int32.toNatClampNeg l2)))) lm) := ze_go (ok := (zeInb l2 6 && (zeInb l2 6 && true))) rfl 11 rfl (zeA2 c1 (zeA2 c0 rfl))
def F_103_2  : Nat → Int32 → zI → zJ → zR
  | 0, _, _, _ => none
  | n + 1, l2, im, lm =>
    if 6 ≤ l2 then
      some (0, im, lm)
    else
      zCk (zeInb l2 6) <|
      F_103_2  n (l2 + 1) (zeU2 im 24 (Int32.toNatClampNeg l2) (if (im 33 (Int32.toNatClampNeg l2)) < 0 then 0 else (im 33 (Int32.toNatClampNeg l2)))) lm
theorem F_103_2_ok {B : zeB} : ∀ (n : Nat) (l2 : Int32)  (im : zI) (lm : zJ), zL B 0 (F_103_2  n l2 im lm) (zeRun 103 2 [some (.ref 23), some (.ref 33), some (.int l2)] [] (zk B im lm)) := by
  intro n
  induction n with
  | zero => intros; exact zL_none
  | succ n ih =>
    intro l2 im lm
    unfold F_103_2
    refine zL_if (d_103_2 _) (fun h => ?_) (fun h => ?_)
    · skip
      exact zL_retv (d_103_27 _ _ _)
    · skip
      refine zL_ck fun c1 => ?_
      refine zL_eq (d_103_8 _ c1 c1) ?_
      exact ih _ _ _
def m_103  (im : zI) (lm : zJ) : zR :=
    F_103_2  2000 0 im lm
theorem m_103_ok {B : zeB}  (im : zI) (lm : zJ) : zL B 0 (m_103  im lm) (zeRun 103 0 [some (.ref 23), some (.ref 33), none] [] (zk B im lm)) := by
  unfold m_103
  refine zL_eq (d_103_0 _) ?_
  exact F_103_2_ok  _ _ _ _
