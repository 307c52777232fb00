/-! pure: L_board, X7_doubled, X7_safeWager -/
/-! L_board -/
theorem d_196_0 {B : zeB} {im : Nat → Nat → Int32} {lm : Nat → Nat → Int64} (o1 : Option Value) (o2 : Option Value) (o3 : Option Value) (o4 : Option Value) (o5 : Option Value) (o6 : Option Value)  : zeRun 196 0 [some (.ref 16), o1, o2, o3, o4, o5, o6] [] (zk B im lm) = zeRun 196 4 [some (.ref 16), some (.int 0), some (.int 0), o3, o4, o5, o6] [] (zk B im lm) := ze_go (ok := true) rfl 4 rfl rfl
theorem d_196_4 {B : zeB} {im : Nat → Nat → Int32} {lm : Nat → Nat → Int64} (l1 : Int32) (l2 : Int32) (o3 : Option Value) (o4 : Option Value) (o5 : Option Value) (o6 : Option Value)  : zeRun 196 4 [some (.ref 16), some (.int l1), some (.int l2), o3, o4, o5, o6] [] (zk B im lm) = if 25 ≤ l2 then zeRun 196 183 [some (.ref 16), some (.int l1), some (.int l2), o3, o4, o5, o6] [] (zk B im lm) else zeRun 196 10 [some (.ref 16), some (.int l1), some (.int l2), o3, o4, o5, o6] [] (zk B im lm) := ze_if (ok := true) rfl 3 rfl rfl
theorem d_196_183 {B : zeB} {im : Nat → Nat → Int32} {lm : Nat → Nat → Int64} (l1 : Int32) (o2 : Option Value) (o3 : Option Value) (o4 : Option Value) (o5 : Option Value) (o6 : Option Value)  : zeRun 196 183 [some (.ref 16), some (.int l1), o2, o3, o4, o5, o6] [] (zk B im lm) = zeBh 196 188 [some (.ref 16), some (.int l1), o2, o3, o4, o5, o6] [] (zeRun 177 0 [some (.ref 16), some (.int 0)] [] (zk B im lm)) := ze_call (ok := true) rfl 3 rfl rfl rfl
theorem d_196_188 {B : zeB} {im : Nat → Nat → Int32} {lm : Nat → Nat → Int64} (l1 : Int32) (o2 : Option Value) (o3 : Option Value) (o4 : Option Value) (o5 : Option Value) (o6 : Option Value) (s0 : Int32)  : zeRun 196 188 [some (.ref 16), some (.int l1), o2, o3, o4, o5, o6] [.int s0] (zk B im lm) = zeBh 196 194 [some (.ref 16), some (.int l1), some (.int s0), o3, o4, o5, o6] [] (zeRun 177 0 [some (.ref 16), some (.int 3)] [] (zk B im lm)) := ze_call (ok := true) rfl 4 rfl rfl rfl
theorem d_196_194 {B : zeB} {im : Nat → Nat → Int32} {lm : Nat → Nat → Int64} (l1 : Int32) (l2 : Int32) (o3 : Option Value) (o4 : Option Value) (o5 : Option Value) (o6 : Option Value) (s0 : Int32)  : zeRun 196 194 [some (.ref 16), some (.int l1), some (.int l2), o3, o4, o5, o6] [.int s0] (zk B im lm) = zeBh 196 200 [some (.ref 16), some (.int l1), some (.int l2), some (.int s0), o4, o5, o6] [] (zeRun 177 0 [some (.ref 16), some (.int 2)] [] (zk B im lm)) := ze_call (ok := true) rfl 4 rfl rfl rfl
theorem d_196_200 {B : zeB} {im : Nat → Nat → Int32} {lm : Nat → Nat → Int64} (l1 : Int32) (l2 : Int32) (l3 : Int32) (o4 : Option Value) (o5 : Option Value) (o6 : Option Value) (s0 : Int32)  : zeRun 196 200 [some (.ref 16), some (.int l1), some (.int l2), some (.int l3), o4, o5, o6] [.int s0] (zk B im lm) = if s0 = l1 then zeRun 196 204 [some (.ref 16), some (.int l1), some (.int l2), some (.int l3), o4, o5, o6] [] (zk B im lm) else zeRun 196 305 [some (.ref 16), some (.int l1), some (.int l2), some (.int l3), o4, o5, o6] [] (zk B im lm) := ze_if (ok := true) rfl 2 rfl rfl
theorem d_196_204 {B : zeB} {im : Nat → Nat → Int32} {lm : Nat → Nat → Int64} (o1 : Option Value) (l2 : Int32) (l3 : Int32) (o4 : Option Value) (o5 : Option Value) (o6 : Option Value)  : zeRun 196 204 [some (.ref 16), o1, some (.int l2), some (.int l3), o4, o5, o6] [] (zk B im lm) = if 0 ≤ l3 then zeRun 196 212 [some (.ref 16), o1, some (.int l2), some (.int l3), o4, o5, o6] [] (zk B im lm) else zeRun 196 208 [some (.ref 16), o1, some (.int l2), some (.int l3), o4, o5, o6] [] (zk B im lm) := ze_if (ok := true) rfl 2 rfl rfl
theorem d_196_212 {B : zeB} {im : Nat → Nat → Int32} {lm : Nat → Nat → Int64} (o1 : Option Value) (l2 : Int32) (l3 : Int32) (o4 : Option Value) (o5 : Option Value) (o6 : Option Value)  : zeRun 196 212 [some (.ref 16), o1, some (.int l2), some (.int l3), o4, o5, o6] [] (zk B im lm) = zeRun 196 213 [some (.ref 16), o1, some (.int l2), some (.int l3), o4, o5, o6] [.int 0] (zk B im lm) := ze_go (ok := true) rfl 1 rfl rfl
theorem d_196_208 {B : zeB} {im : Nat → Nat → Int32} {lm : Nat → Nat → Int64} (o1 : Option Value) (l2 : Int32) (l3 : Int32) (o4 : Option Value) (o5 : Option Value) (o6 : Option Value)  : zeRun 196 208 [some (.ref 16), o1, some (.int l2), some (.int l3), o4, o5, o6] [] (zk B im lm) = zeRun 196 213 [some (.ref 16), o1, some (.int l2), some (.int l3), o4, o5, o6] [.int 1] (zk B im lm) := ze_go (ok := true) rfl 2 rfl rfl
theorem d_196_305 {B : zeB} {im : Nat → Nat → Int32} {lm : Nat → Nat → Int64} (o0 : Option Value) (o1 : Option Value) (o2 : Option Value) (o3 : Option Value) (o4 : Option Value) (o5 : Option Value) (o6 : Option Value)  : zeRun 196 305 [o0, o1, o2, o3, o4, o5, o6] [] (zk B im lm) = some (some (.int 0), (zk B im lm)) := ze_ret (ok := true) rfl 2 rfl rfl
theorem d_196_10 {B : zeB} {im : Nat → Nat → Int32} {lm : Nat → Nat → Int64} (l1 : Int32) (l2 : Int32) (o3 : Option Value) (o4 : Option Value) (o5 : Option Value) (o6 : Option Value)  : zeRun 196 10 [some (.ref 16), some (.int l1), some (.int l2), o3, o4, o5, o6] [] (zk B im lm) = zeRun 196 19 [some (.ref 16), some (.int l1), some (.int l2), some (.int 0), some (.int (-10000005)), some (.int 0), o6] [] (zk B im lm) := ze_go (ok := true) rfl 6 rfl rfl
theorem d_196_19 {B : zeB} {im : Nat → Nat → Int32} {lm : Nat → Nat → Int64} (l1 : Int32) (l2 : Int32) (l3 : Int32) (l4 : Int32) (l5 : Int32) (o6 : Option Value)  : zeRun 196 19 [some (.ref 16), some (.int l1), some (.int l2), some (.int l3), some (.int l4), some (.int l5), o6] [] (zk B im lm) = zeBh 196 26 [some (.ref 16), some (.int l1), some (.int l2), some (.int l3), some (.int l4), some (.int l5), o6] [.int l5] (zeRun 177 0 [some (.ref 16), some (.int 5)] [] (zk B im lm)) := ze_call (ok := true) rfl 4 rfl rfl rfl
theorem d_196_26 {B : zeB} {im : Nat → Nat → Int32} {lm : Nat → Nat → Int64} (l1 : Int32) (l2 : Int32) (l3 : Int32) (l4 : Int32) (l5 : Int32) (o6 : Option Value) (s0 : Int32) (s1 : Int32)  : zeRun 196 26 [some (.ref 16), some (.int l1), some (.int l2), some (.int l3), some (.int l4), some (.int l5), o6] [.int s1, .int s0] (zk B im lm) = if s1 ≤ s0 then zeRun 196 107 [some (.ref 16), some (.int l1), some (.int l2), some (.int l3), some (.int l4), some (.int l5), o6] [] (zk B im lm) else zeRun 196 29 [some (.ref 16), some (.int l1), some (.int l2), some (.int l3), some (.int l4), some (.int l5), o6] [] (zk B im lm) := ze_if (ok := true) rfl 1 rfl rfl
theorem d_196_107 {B : zeB} {im : Nat → Nat → Int32} {lm : Nat → Nat → Int64} (l1 : Int32) (l2 : Int32) (l3 : Int32) (l4 : Int32) (o5 : Option Value) (o6 : Option Value)  : zeRun 196 107 [some (.ref 16), some (.int l1), some (.int l2), some (.int l3), some (.int l4), o5, o6] [] (zk B im lm) = zeBh 196 114 [some (.ref 16), some (.int l1), some (.int l2), some (.int l3), some (.int l4), o5, o6] [.int l1] (zeRun 169 0 [some (.ref 16), some (.int l2), some (.int 2)] [] (zk B im lm)) := ze_call (ok := true) rfl 5 rfl rfl rfl
theorem d_196_114 {B : zeB} {im : Nat → Nat → Int32} {lm : Nat → Nat → Int64} (o1 : Option Value) (l2 : Int32) (l3 : Int32) (l4 : Int32) (o5 : Option Value) (o6 : Option Value) (s0 : Int32) (s1 : Int32)  : zeRun 196 114 [some (.ref 16), o1, some (.int l2), some (.int l3), some (.int l4), o5, o6] [.int s1, .int s0] (zk B im lm) = if s1 = 0 then zeRun 196 117 [some (.ref 16), o1, some (.int l2), some (.int l3), some (.int l4), o5, o6] [.int s0] (zk B im lm) else zeRun 196 121 [some (.ref 16), o1, some (.int l2), some (.int l3), some (.int l4), o5, o6] [.int s0] (zk B im lm) := ze_if (ok := true) rfl 1 rfl rfl
theorem d_196_117 {B : zeB} {im : Nat → Nat → Int32} {lm : Nat → Nat → Int64} (o1 : Option Value) (l2 : Int32) (l3 : Int32) (l4 : Int32) (o5 : Option Value) (o6 : Option Value) (s0 : Int32)  : zeRun 196 117 [some (.ref 16), o1, some (.int l2), some (.int l3), some (.int l4), o5, o6] [.int s0] (zk B im lm) = zeRun 196 122 [some (.ref 16), o1, some (.int l2), some (.int l3), some (.int l4), o5, o6] [.int 1, .int s0] (zk B im lm) := ze_go (ok := true) rfl 2 rfl rfl
theorem d_196_121 {B : zeB} {im : Nat → Nat → Int32} {lm : Nat → Nat → Int64} (o1 : Option Value) (l2 : Int32) (l3 : Int32) (l4 : Int32) (o5 : Option Value) (o6 : Option Value) (s0 : Int32)  : zeRun 196 121 [some (.ref 16), o1, some (.int l2), some (.int l3), some (.int l4), o5, o6] [.int s0] (zk B im lm) = zeRun 196 122 [some (.ref 16), o1, some (.int l2), some (.int l3), some (.int l4), o5, o6] [.int 0, .int s0] (zk B im lm) := ze_go (ok := true) rfl 1 rfl rfl
theorem d_196_29 {B : zeB} {im : Nat → Nat → Int32} {lm : Nat → Nat → Int64} (l1 : Int32) (l2 : Int32) (l3 : Int32) (l4 : Int32) (l5 : Int32) (o6 : Option Value)  : zeRun 196 29 [some (.ref 16), some (.int l1), some (.int l2), some (.int l3), some (.int l4), some (.int l5), o6] [] (zk B im lm) = zeBh 196 36 [some (.ref 16), some (.int l1), some (.int l2), some (.int l3), some (.int l4), some (.int l5), o6] [] (zeRun 172 0 [some (.ref 16), some (.int l5), some (.int 2)] [] (zk B im lm)) := ze_call (ok := true) rfl 4 rfl rfl rfl
theorem d_196_36 {B : zeB} {im : Nat → Nat → Int32} {lm : Nat → Nat → Int64} (l1 : Int32) (l2 : Int32) (l3 : Int32) (l4 : Int32) (l5 : Int32) (o6 : Option Value) (s0 : Int32)  : zeRun 196 36 [some (.ref 16), some (.int l1), some (.int l2), some (.int l3), some (.int l4), some (.int l5), o6] [.int s0] (zk B im lm) = if s0 = l2 then zeRun 196 40 [some (.ref 16), some (.int l1), some (.int l2), some (.int l3), some (.int l4), some (.int l5), o6] [] (zk B im lm) else zeRun 196 44 [some (.ref 16), some (.int l1), some (.int l2), some (.int l3), some (.int l4), some (.int l5), o6] [] (zk B im lm) := ze_if (ok := true) rfl 2 rfl rfl
theorem d_196_40 {B : zeB} {im : Nat → Nat → Int32} {lm : Nat → Nat → Int64} (l1 : Int32) (l2 : Int32) (l3 : Int32) (l4 : Int32) (l5 : Int32) (o6 : Option Value)  : zeRun 196 40 [some (.ref 16), some (.int l1), some (.int l2), some (.int l3), some (.int l4), some (.int l5), o6] [] (zk B im lm) = zeRun 196 45 [some (.ref 16), some (.int l1), some (.int l2), some (.int l3), some (.int l4), some (.int l5), o6] [.int 1] (zk B im lm) := ze_go (ok := true) rfl 2 rfl rfl
theorem d_196_44 {B : zeB} {im : Nat → Nat → Int32} {lm : Nat → Nat → Int64} (l1 : Int32) (l2 : Int32) (l3 : Int32) (l4 : Int32) (l5 : Int32) (o6 : Option Value)  : zeRun 196 44 [some (.ref 16), some (.int l1), some (.int l2), some (.int l3), some (.int l4), some (.int l5), o6] [] (zk B im lm) = zeRun 196 45 [some (.ref 16), some (.int l1), some (.int l2), some (.int l3), some (.int l4), some (.int l5), o6] [.int 0] (zk B im lm) := ze_go (ok := true) rfl 1 rfl rfl
theorem d_196_45 {B : zeB} {im : Nat → Nat → Int32} {lm : Nat → Nat → Int64} (l1 : Int32) (l2 : Int32) (l3 : Int32) (l4 : Int32) (l5 : Int32) (o6 : Option Value) (s0 : Int32)  : zeRun 196 45 [some (.ref 16), some (.int l1), some (.int l2), some (.int l3), some (.int l4), some (.int l5), o6] [.int s0] (zk B im lm) = if s0 = 0 then zeRun 196 57 [some (.ref 16), some (.int l1), some (.int l2), some (.int l3), some (.int l4), some (.int l5), some (.int s0)] [.int l3] (zk B im lm) else zeRun 196 53 [some (.ref 16), some (.int l1), some (.int l2), some (.int l3), some (.int l4), some (.int l5), some (.int s0)] [.int l3] (zk B im lm) := ze_if (ok := true) rfl 4 rfl rfl
theorem d_196_57 {B : zeB} {im : Nat → Nat → Int32} {lm : Nat → Nat → Int64} (l1 : Int32) (l2 : Int32) (o3 : Option Value) (l4 : Int32) (l5 : Int32) (l6 : Int32) (s0 : Int32)  : zeRun 196 57 [some (.ref 16), some (.int l1), some (.int l2), o3, some (.int l4), some (.int l5), some (.int l6)] [.int s0] (zk B im lm) = zeRun 196 58 [some (.ref 16), some (.int l1), some (.int l2), o3, some (.int l4), some (.int l5), some (.int l6)] [.int 0, .int s0] (zk B im lm) := ze_go (ok := true) rfl 1 rfl rfl
theorem d_196_53 {B : zeB} {im : Nat → Nat → Int32} {lm : Nat → Nat → Int64} (l1 : Int32) (l2 : Int32) (o3 : Option Value) (l4 : Int32) (l5 : Int32) (l6 : Int32) (s0 : Int32)  : zeRun 196 53 [some (.ref 16), some (.int l1), some (.int l2), o3, some (.int l4), some (.int l5), some (.int l6)] [.int s0] (zk B im lm) = zeRun 196 58 [some (.ref 16), some (.int l1), some (.int l2), o3, some (.int l4), some (.int l5), some (.int l6)] [.int 1, .int s0] (zk B im lm) := ze_go (ok := true) rfl 2 rfl rfl
theorem d_196_58 {B : zeB} {im : Nat → Nat → Int32} {lm : Nat → Nat → Int64} (l1 : Int32) (l2 : Int32) (o3 : Option Value) (l4 : Int32) (l5 : Int32) (l6 : Int32) (s0 : Int32) (s1 : Int32)  : zeRun 196 58 [some (.ref 16), some (.int l1), some (.int l2), o3, some (.int l4), some (.int l5), some (.int l6)] [.int s1, .int s0] (zk B im lm) = if l6 = 0 then zeRun 196 97 [some (.ref 16), some (.int l1), some (.int l2), some (.int (s0 + s1)), some (.int l4), some (.int l5), some (.int l6)] [] (zk B im lm) else zeRun 196 65 [some (.ref 16), some (.int l1), some (.int l2), some (.int (s0 + s1)), some (.int l4), some (.int l5), some (.int l6)] [] (zk B im lm) := ze_if (ok := true) rfl 4 rfl rfl
theorem d_196_97 {B : zeB} {im : Nat → Nat → Int32} {lm : Nat → Nat → Int64} (l1 : Int32) (l2 : Int32) (l3 : Int32) (l4 : Int32) (l5 : Int32) (o6 : Option Value)  : zeRun 196 97 [some (.ref 16), some (.int l1), some (.int l2), some (.int l3), some (.int l4), some (.int l5), o6] [] (zk B im lm) = zeRun 196 19 [some (.ref 16), some (.int l1), some (.int l2), some (.int l3), some (.int l4), some (.int (l5 + 1)), o6] [] (zk B im lm) := ze_go (ok := true) rfl 4 rfl rfl
theorem d_196_65 {B : zeB} {im : Nat → Nat → Int32} {lm : Nat → Nat → Int64} (l1 : Int32) (l2 : Int32) (l3 : Int32) (l4 : Int32) (l5 : Int32) (o6 : Option Value)  : zeRun 196 65 [some (.ref 16), some (.int l1), some (.int l2), some (.int l3), some (.int l4), some (.int l5), o6] [] (zk B im lm) = zeBh 196 72 [some (.ref 16), some (.int l1), some (.int l2), some (.int l3), some (.int l4), some (.int l5), o6] [] (zeRun 172 0 [some (.ref 16), some (.int l5), some (.int 5)] [] (zk B im lm)) := ze_call (ok := true) rfl 4 rfl rfl rfl
theorem d_196_72 {B : zeB} {im : Nat → Nat → Int32} {lm : Nat → Nat → Int64} (l1 : Int32) (l2 : Int32) (l3 : Int32) (l4 : Int32) (l5 : Int32) (o6 : Option Value) (s0 : Int32)  : zeRun 196 72 [some (.ref 16), some (.int l1), some (.int l2), some (.int l3), some (.int l4), some (.int l5), o6] [.int s0] (zk B im lm) = if s0 = 1 then zeRun 196 76 [some (.ref 16), some (.int l1), some (.int l2), some (.int l3), some (.int l4), some (.int l5), o6] [] (zk B im lm) else zeRun 196 97 [some (.ref 16), some (.int l1), some (.int l2), some (.int l3), some (.int l4), some (.int l5), o6] [] (zk B im lm) := ze_if (ok := true) rfl 2 rfl rfl
theorem d_196_76 {B : zeB} {im : Nat → Nat → Int32} {lm : Nat → Nat → Int64} (l1 : Int32) (l2 : Int32) (l3 : Int32) (l4 : Int32) (l5 : Int32) (o6 : Option Value)  : zeRun 196 76 [some (.ref 16), some (.int l1), some (.int l2), some (.int l3), some (.int l4), some (.int l5), o6] [] (zk B im lm) = zeBh 196 84 [some (.ref 16), some (.int l1), some (.int l2), some (.int l3), some (.int l4), some (.int l5), o6] [] (zeRun 172 0 [some (.ref 16), some (.int l5), some (.int 7)] [] (zk B im lm)) := ze_call (ok := true) rfl 4 rfl rfl rfl
theorem d_196_84 {B : zeB} {im : Nat → Nat → Int32} {lm : Nat → Nat → Int64} (l1 : Int32) (l2 : Int32) (l3 : Int32) (l4 : Int32) (l5 : Int32) (o6 : Option Value) (s0 : Int32)  : zeRun 196 84 [some (.ref 16), some (.int l1), some (.int l2), some (.int l3), some (.int l4), some (.int l5), o6] [.int s0] (zk B im lm) = if s0 = 0 then zeRun 196 87 [some (.ref 16), some (.int l1), some (.int l2), some (.int l3), some (.int l4), some (.int l5), o6] [] (zk B im lm) else zeRun 196 97 [some (.ref 16), some (.int l1), some (.int l2), some (.int l3), some (.int l4), some (.int l5), o6] [] (zk B im lm) := ze_if (ok := true) rfl 1 rfl rfl
theorem d_196_87 {B : zeB} {im : Nat → Nat → Int32} {lm : Nat → Nat → Int64} (l1 : Int32) (l2 : Int32) (l3 : Int32) (o4 : Option Value) (l5 : Int32) (o6 : Option Value)  : zeRun 196 87 [some (.ref 16), some (.int l1), some (.int l2), some (.int l3), o4, some (.int l5), o6] [] (zk B im lm) = zeBh 196 94 [some (.ref 16), some (.int l1), some (.int l2), some (.int l3), o4, some (.int l5), o6] [] (zeRun 172 0 [some (.ref 16), some (.int l5), some (.int 0)] [] (zk B im lm)) := ze_call (ok := true) rfl 4 rfl rfl rfl
theorem d_196_94 {B : zeB} {im : Nat → Nat → Int32} {lm : Nat → Nat → Int64} (l1 : Int32) (l2 : Int32) (l3 : Int32) (o4 : Option Value) (l5 : Int32) (o6 : Option Value) (s0 : Int32)  : zeRun 196 94 [some (.ref 16), some (.int l1), some (.int l2), some (.int l3), o4, some (.int l5), o6] [.int s0] (zk B im lm) = zeRun 196 19 [some (.ref 16), some (.int l1), some (.int l2), some (.int l3), some (.int s0), some (.int (l5 + 1)), o6] [] (zk B im lm) := ze_go (ok := true) rfl 4 rfl rfl
theorem d_196_122 {B : zeB} {im : Nat → Nat → Int32} {lm : Nat → Nat → Int64} (o1 : Option Value) (l2 : Int32) (l3 : Int32) (l4 : Int32) (o5 : Option Value) (o6 : Option Value) (s0 : Int32) (s1 : Int32)  : zeRun 196 122 [some (.ref 16), o1, some (.int l2), some (.int l3), some (.int l4), o5, o6] [.int s1, .int s0] (zk B im lm) = zeBh 196 130 [some (.ref 16), some (.int (s0 + s1)), some (.int l2), some (.int l3), some (.int l4), o5, o6] [] (zeRun 169 0 [some (.ref 16), some (.int l2), some (.int 0)] [] (zk B im lm)) := ze_call (ok := true) rfl 6 rfl rfl rfl
theorem d_196_130 {B : zeB} {im : Nat → Nat → Int32} {lm : Nat → Nat → Int64} (l1 : Int32) (l2 : Int32) (l3 : Int32) (l4 : Int32) (o5 : Option Value) (o6 : Option Value) (s0 : Int32)  : zeRun 196 130 [some (.ref 16), some (.int l1), some (.int l2), some (.int l3), some (.int l4), o5, o6] [.int s0] (zk B im lm) = if s0 = (100 * ((l2 / 5) + 1)) then zeRun 196 141 [some (.ref 16), some (.int l1), some (.int l2), some (.int l3), some (.int l4), o5, o6] [] (zk B im lm) else zeRun 196 175 [some (.ref 16), some (.int l1), some (.int l2), some (.int l3), some (.int l4), o5, o6] [] (zk B im lm) := ze_if (ok := true) rfl 8 rfl rfl
theorem d_196_141 {B : zeB} {im : Nat → Nat → Int32} {lm : Nat → Nat → Int64} (l1 : Int32) (l2 : Int32) (l3 : Int32) (l4 : Int32) (o5 : Option Value) (o6 : Option Value)  : zeRun 196 141 [some (.ref 16), some (.int l1), some (.int l2), some (.int l3), some (.int l4), o5, o6] [] (zk B im lm) = zeBh 196 147 [some (.ref 16), some (.int l1), some (.int l2), some (.int l3), some (.int l4), o5, o6] [] (zeRun 169 0 [some (.ref 16), some (.int l2), some (.int 3)] [] (zk B im lm)) := ze_call (ok := true) rfl 4 rfl rfl rfl
theorem d_196_147 {B : zeB} {im : Nat → Nat → Int32} {lm : Nat → Nat → Int64} (l1 : Int32) (l2 : Int32) (l3 : Int32) (l4 : Int32) (o5 : Option Value) (o6 : Option Value) (s0 : Int32)  : zeRun 196 147 [some (.ref 16), some (.int l1), some (.int l2), some (.int l3), some (.int l4), o5, o6] [.int s0] (zk B im lm) = if s0 = l3 then zeRun 196 151 [some (.ref 16), some (.int l1), some (.int l2), some (.int l3), some (.int l4), o5, o6] [] (zk B im lm) else zeRun 196 175 [some (.ref 16), some (.int l1), some (.int l2), some (.int l3), some (.int l4), o5, o6] [] (zk B im lm) := ze_if (ok := true) rfl 2 rfl rfl
theorem d_196_151 {B : zeB} {im : Nat → Nat → Int32} {lm : Nat → Nat → Int64} (l1 : Int32) (l2 : Int32) (l3 : Int32) (l4 : Int32) (o5 : Option Value) (o6 : Option Value)  : zeRun 196 151 [some (.ref 16), some (.int l1), some (.int l2), some (.int l3), some (.int l4), o5, o6] [] (zk B im lm) = zeBh 196 157 [some (.ref 16), some (.int l1), some (.int l2), some (.int l3), some (.int l4), o5, o6] [] (zeRun 169 0 [some (.ref 16), some (.int l2), some (.int 4)] [] (zk B im lm)) := ze_call (ok := true) rfl 4 rfl rfl rfl
theorem d_196_157 {B : zeB} {im : Nat → Nat → Int32} {lm : Nat → Nat → Int64} (l1 : Int32) (l2 : Int32) (l3 : Int32) (l4 : Int32) (o5 : Option Value) (o6 : Option Value) (s0 : Int32)  : zeRun 196 157 [some (.ref 16), some (.int l1), some (.int l2), some (.int l3), some (.int l4), o5, o6] [.int s0] (zk B im lm) = if s0 = l4 then zeRun 196 162 [some (.ref 16), some (.int l1), some (.int l2), some (.int l3), some (.int l4), o5, o6] [] (zk B im lm) else zeRun 196 175 [some (.ref 16), some (.int l1), some (.int l2), some (.int l3), some (.int l4), o5, o6] [] (zk B im lm) := ze_if (ok := true) rfl 2 rfl rfl
theorem d_196_162 {B : zeB} {im : Nat → Nat → Int32} {lm : Nat → Nat → Int64} (l1 : Int32) (l2 : Int32) (l3 : Int32) (o4 : Option Value) (o5 : Option Value) (o6 : Option Value)  : zeRun 196 162 [some (.ref 16), some (.int l1), some (.int l2), some (.int l3), o4, o5, o6] [] (zk B im lm) = if l3 ≤ 0 then zeRun 196 177 [some (.ref 16), some (.int l1), some (.int l2), some (.int l3), o4, o5, o6] [] (zk B im lm) else zeRun 196 166 [some (.ref 16), some (.int l1), some (.int l2), some (.int l3), o4, o5, o6] [] (zk B im lm) := ze_if (ok := true) rfl 2 rfl rfl
theorem d_196_177 {B : zeB} {im : Nat → Nat → Int32} {lm : Nat → Nat → Int64} (l1 : Int32) (l2 : Int32) (o3 : Option Value) (o4 : Option Value) (o5 : Option Value) (o6 : Option Value)  : zeRun 196 177 [some (.ref 16), some (.int l1), some (.int l2), o3, o4, o5, o6] [] (zk B im lm) = zeRun 196 4 [some (.ref 16), some (.int l1), some (.int (l2 + 1)), o3, o4, o5, o6] [] (zk B im lm) := ze_go (ok := true) rfl 2 rfl rfl
theorem d_196_166 {B : zeB} {im : Nat → Nat → Int32} {lm : Nat → Nat → Int64} (l1 : Int32) (l2 : Int32) (o3 : Option Value) (o4 : Option Value) (o5 : Option Value) (o6 : Option Value)  : zeRun 196 166 [some (.ref 16), some (.int l1), some (.int l2), o3, o4, o5, o6] [] (zk B im lm) = zeBh 196 172 [some (.ref 16), some (.int l1), some (.int l2), o3, o4, o5, o6] [] (zeRun 169 0 [some (.ref 16), some (.int l2), some (.int 2)] [] (zk B im lm)) := ze_call (ok := true) rfl 4 rfl rfl rfl
theorem d_196_172 {B : zeB} {im : Nat → Nat → Int32} {lm : Nat → Nat → Int64} (l1 : Int32) (l2 : Int32) (o3 : Option Value) (o4 : Option Value) (o5 : Option Value) (o6 : Option Value) (s0 : Int32)  : zeRun 196 172 [some (.ref 16), some (.int l1), some (.int l2), o3, o4, o5, o6] [.int s0] (zk B im lm) = if s0 = 0 then zeRun 196 175 [some (.ref 16), some (.int l1), some (.int l2), o3, o4, o5, o6] [] (zk B im lm) else zeRun 196 177 [some (.ref 16), some (.int l1), some (.int l2), o3, o4, o5, o6] [] (zk B im lm) := ze_if (ok := true) rfl 1 rfl rfl
theorem d_196_175 {B : zeB} {im : Nat → Nat → Int32} {lm : Nat → Nat → Int64} (o0 : Option Value) (o1 : Option Value) (o2 : Option Value) (o3 : Option Value) (o4 : Option Value) (o5 : Option Value) (o6 : Option Value)  : zeRun 196 175 [o0, o1, o2, o3, o4, o5, o6] [] (zk B im lm) = some (some (.int 0), (zk B im lm)) := ze_ret (ok := true) rfl 2 rfl rfl
theorem d_196_213 {B : zeB} {im : Nat → Nat → Int32} {lm : Nat → Nat → Int64} (o1 : Option Value) (l2 : Int32) (l3 : Int32) (o4 : Option Value) (o5 : Option Value) (o6 : Option Value) (s0 : Int32)  : zeRun 196 213 [some (.ref 16), o1, some (.int l2), some (.int l3), o4, o5, o6] [.int s0] (zk B im lm) = if l2 = 0 then zeRun 196 222 [some (.ref 16), o1, some (.int l2), some (.int l3), o4, o5, o6] [.int s0] (zk B im lm) else zeRun 196 217 [some (.ref 16), o1, some (.int l2), some (.int l3), o4, o5, o6] [.int s0] (zk B im lm) := ze_if (ok := true) rfl 2 rfl rfl
theorem d_196_222 {B : zeB} {im : Nat → Nat → Int32} {lm : Nat → Nat → Int64} (o1 : Option Value) (l2 : Int32) (l3 : Int32) (o4 : Option Value) (o5 : Option Value) (o6 : Option Value) (s0 : Int32)  : zeRun 196 222 [some (.ref 16), o1, some (.int l2), some (.int l3), o4, o5, o6] [.int s0] (zk B im lm) = zeRun 196 227 [some (.ref 16), o1, some (.int l2), some (.int l3), o4, o5, o6] [.int 1, .int s0] (zk B im lm) := ze_go (ok := true) rfl 2 rfl rfl
theorem d_196_217 {B : zeB} {im : Nat → Nat → Int32} {lm : Nat → Nat → Int64} (o1 : Option Value) (l2 : Int32) (l3 : Int32) (o4 : Option Value) (o5 : Option Value) (o6 : Option Value) (s0 : Int32)  : zeRun 196 217 [some (.ref 16), o1, some (.int l2), some (.int l3), o4, o5, o6] [.int s0] (zk B im lm) = if l2 ≤ 3 then zeRun 196 226 [some (.ref 16), o1, some (.int l2), some (.int l3), o4, o5, o6] [.int s0] (zk B im lm) else zeRun 196 222 [some (.ref 16), o1, some (.int l2), some (.int l3), o4, o5, o6] [.int s0] (zk B im lm) := ze_if (ok := true) rfl 3 rfl rfl
theorem d_196_226 {B : zeB} {im : Nat → Nat → Int32} {lm : Nat → Nat → Int64} (o1 : Option Value) (l2 : Int32) (l3 : Int32) (o4 : Option Value) (o5 : Option Value) (o6 : Option Value) (s0 : Int32)  : zeRun 196 226 [some (.ref 16), o1, some (.int l2), some (.int l3), o4, o5, o6] [.int s0] (zk B im lm) = zeRun 196 227 [some (.ref 16), o1, some (.int l2), some (.int l3), o4, o5, o6] [.int 0, .int s0] (zk B im lm) := ze_go (ok := true) rfl 1 rfl rfl
theorem d_196_227 {B : zeB} {im : Nat → Nat → Int32} {lm : Nat → Nat → Int64} (o1 : Option Value) (l2 : Int32) (l3 : Int32) (o4 : Option Value) (o5 : Option Value) (o6 : Option Value) (s0 : Int32) (s1 : Int32)  : zeRun 196 227 [some (.ref 16), o1, some (.int l2), some (.int l3), o4, o5, o6] [.int s1, .int s0] (zk B im lm) = if s0 = s1 then zeRun 196 230 [some (.ref 16), o1, some (.int l2), some (.int l3), o4, o5, o6] [] (zk B im lm) else zeRun 196 305 [some (.ref 16), o1, some (.int l2), some (.int l3), o4, o5, o6] [] (zk B im lm) := ze_if (ok := true) rfl 1 rfl rfl
theorem d_196_230 {B : zeB} {im : Nat → Nat → Int32} {lm : Nat → Nat → Int64} (o1 : Option Value) (l2 : Int32) (l3 : Int32) (o4 : Option Value) (o5 : Option Value) (o6 : Option Value)  : zeRun 196 230 [some (.ref 16), o1, some (.int l2), some (.int l3), o4, o5, o6] [] (zk B im lm) = if l3 < 0 then zeRun 196 263 [some (.ref 16), o1, some (.int l2), some (.int l3), o4, o5, o6] [] (zk B im lm) else zeRun 196 234 [some (.ref 16), o1, some (.int l2), some (.int l3), o4, o5, o6] [] (zk B im lm) := ze_if (ok := true) rfl 2 rfl rfl
theorem d_196_234 {B : zeB} {im : Nat → Nat → Int32} {lm : Nat → Nat → Int64} (o1 : Option Value) (l2 : Int32) (l3 : Int32) (o4 : Option Value) (o5 : Option Value) (o6 : Option Value)  : zeRun 196 234 [some (.ref 16), o1, some (.int l2), some (.int l3), o4, o5, o6] [] (zk B im lm) = zeBh 196 240 [some (.ref 16), o1, some (.int l2), some (.int l3), o4, o5, o6] [] (zeRun 169 0 [some (.ref 16), some (.int l3), some (.int 2)] [] (zk B im lm)) := ze_call (ok := true) rfl 4 rfl rfl rfl
theorem d_196_240 {B : zeB} {im : Nat → Nat → Int32} {lm : Nat → Nat → Int64} (o1 : Option Value) (l2 : Int32) (l3 : Int32) (o4 : Option Value) (o5 : Option Value) (o6 : Option Value) (s0 : Int32)  : zeRun 196 240 [some (.ref 16), o1, some (.int l2), some (.int l3), o4, o5, o6] [.int s0] (zk B im lm) = if s0 = 1 then zeRun 196 244 [some (.ref 16), o1, some (.int l2), some (.int l3), o4, o5, o6] [] (zk B im lm) else zeRun 196 305 [some (.ref 16), o1, some (.int l2), some (.int l3), o4, o5, o6] [] (zk B im lm) := ze_if (ok := true) rfl 2 rfl rfl
theorem d_196_244 {B : zeB} {im : Nat → Nat → Int32} {lm : Nat → Nat → Int64} (o1 : Option Value) (l2 : Int32) (l3 : Int32) (o4 : Option Value) (o5 : Option Value) (o6 : Option Value)  : zeRun 196 244 [some (.ref 16), o1, some (.int l2), some (.int l3), o4, o5, o6] [] (zk B im lm) = zeBh 196 250 [some (.ref 16), o1, some (.int l2), some (.int l3), o4, o5, o6] [] (zeRun 169 0 [some (.ref 16), some (.int l3), some (.int 1)] [] (zk B im lm)) := ze_call (ok := true) rfl 4 rfl rfl rfl
theorem d_196_250 {B : zeB} {im : Nat → Nat → Int32} {lm : Nat → Nat → Int64} (o1 : Option Value) (l2 : Int32) (o3 : Option Value) (o4 : Option Value) (o5 : Option Value) (o6 : Option Value) (s0 : Int32)  : zeRun 196 250 [some (.ref 16), o1, some (.int l2), o3, o4, o5, o6] [.int s0] (zk B im lm) = if l2 ≤ 1 then zeRun 196 259 [some (.ref 16), o1, some (.int l2), o3, o4, o5, o6] [.int s0] (zk B im lm) else zeRun 196 255 [some (.ref 16), o1, some (.int l2), o3, o4, o5, o6] [.int s0] (zk B im lm) := ze_if (ok := true) rfl 3 rfl rfl
theorem d_196_259 {B : zeB} {im : Nat → Nat → Int32} {lm : Nat → Nat → Int64} (o1 : Option Value) (l2 : Int32) (o3 : Option Value) (o4 : Option Value) (o5 : Option Value) (o6 : Option Value) (s0 : Int32)  : zeRun 196 259 [some (.ref 16), o1, some (.int l2), o3, o4, o5, o6] [.int s0] (zk B im lm) = zeRun 196 260 [some (.ref 16), o1, some (.int l2), o3, o4, o5, o6] [.int 0, .int s0] (zk B im lm) := ze_go (ok := true) rfl 1 rfl rfl
theorem d_196_255 {B : zeB} {im : Nat → Nat → Int32} {lm : Nat → Nat → Int64} (o1 : Option Value) (l2 : Int32) (o3 : Option Value) (o4 : Option Value) (o5 : Option Value) (o6 : Option Value) (s0 : Int32)  : zeRun 196 255 [some (.ref 16), o1, some (.int l2), o3, o4, o5, o6] [.int s0] (zk B im lm) = zeRun 196 260 [some (.ref 16), o1, some (.int l2), o3, o4, o5, o6] [.int 1, .int s0] (zk B im lm) := ze_go (ok := true) rfl 2 rfl rfl
theorem d_196_260 {B : zeB} {im : Nat → Nat → Int32} {lm : Nat → Nat → Int64} (o1 : Option Value) (l2 : Int32) (o3 : Option Value) (o4 : Option Value) (o5 : Option Value) (o6 : Option Value) (s0 : Int32) (s1 : Int32)  : zeRun 196 260 [some (.ref 16), o1, some (.int l2), o3, o4, o5, o6] [.int s1, .int s0] (zk B im lm) = if s0 = s1 then zeRun 196 263 [some (.ref 16), o1, some (.int l2), o3, o4, o5, o6] [] (zk B im lm) else zeRun 196 305 [some (.ref 16), o1, some (.int l2), o3, o4, o5, o6] [] (zk B im lm) := ze_if (ok := true) rfl 1 rfl rfl
theorem d_196_263 {B : zeB} {im : Nat → Nat → Int32} {lm : Nat → Nat → Int64} (o1 : Option Value) (l2 : Int32) (o3 : Option Value) (o4 : Option Value) (o5 : Option Value) (o6 : Option Value)  : zeRun 196 263 [some (.ref 16), o1, some (.int l2), o3, o4, o5, o6] [] (zk B im lm) = zeBh 196 270 [some (.ref 16), o1, some (.int l2), o3, o4, o5, o6] [] (zeRun 169 0 [some (.ref 16), some (.int 25), some (.int 0)] [] (zk B im lm)) := ze_call (ok := true) rfl 4 rfl rfl rfl
theorem d_196_270 {B : zeB} {im : Nat → Nat → Int32} {lm : Nat → Nat → Int64} (o1 : Option Value) (l2 : Int32) (o3 : Option Value) (o4 : Option Value) (o5 : Option Value) (o6 : Option Value) (s0 : Int32)  : zeRun 196 270 [some (.ref 16), o1, some (.int l2), o3, o4, o5, o6] [.int s0] (zk B im lm) = if s0 = (-10000001) then zeRun 196 275 [some (.ref 16), o1, some (.int l2), o3, o4, o5, o6] [] (zk B im lm) else zeRun 196 305 [some (.ref 16), o1, some (.int l2), o3, o4, o5, o6] [] (zk B im lm) := ze_if (ok := true) rfl 2 rfl rfl
theorem d_196_275 {B : zeB} {im : Nat → Nat → Int32} {lm : Nat → Nat → Int64} (o1 : Option Value) (l2 : Int32) (o3 : Option Value) (o4 : Option Value) (o5 : Option Value) (o6 : Option Value)  : zeRun 196 275 [some (.ref 16), o1, some (.int l2), o3, o4, o5, o6] [] (zk B im lm) = if l2 = 1 then zeRun 196 290 [some (.ref 16), o1, some (.int l2), o3, o4, o5, o6] [] (zk B im lm) else zeRun 196 280 [some (.ref 16), o1, some (.int l2), o3, o4, o5, o6] [] (zk B im lm) := ze_if (ok := true) rfl 3 rfl rfl
theorem d_196_280 {B : zeB} {im : Nat → Nat → Int32} {lm : Nat → Nat → Int64} (o1 : Option Value) (o2 : Option Value) (o3 : Option Value) (o4 : Option Value) (o5 : Option Value) (o6 : Option Value)  : zeRun 196 280 [some (.ref 16), o1, o2, o3, o4, o5, o6] [] (zk B im lm) = zeBh 196 285 [some (.ref 16), o1, o2, o3, o4, o5, o6] [] (zeRun 166 0 [some (.ref 16), some (.int 0)] [] (zk B im lm)) := ze_call (ok := true) rfl 3 rfl rfl rfl
theorem d_196_285 {B : zeB} {im : Nat → Nat → Int32} {lm : Nat → Nat → Int64} (o1 : Option Value) (o2 : Option Value) (o3 : Option Value) (o4 : Option Value) (o5 : Option Value) (o6 : Option Value) (s0 : Int32)  : zeRun 196 285 [some (.ref 16), o1, o2, o3, o4, o5, o6] [.int s0] (zk B im lm) = if s0 = (-10000005) then zeRun 196 290 [some (.ref 16), o1, o2, o3, o4, o5, o6] [] (zk B im lm) else zeRun 196 305 [some (.ref 16), o1, o2, o3, o4, o5, o6] [] (zk B im lm) := ze_if (ok := true) rfl 2 rfl rfl
theorem d_196_290 {B : zeB} {im : Nat → Nat → Int32} {lm : Nat → Nat → Int64} (o1 : Option Value) (o2 : Option Value) (o3 : Option Value) (o4 : Option Value) (o5 : Option Value) (o6 : Option Value)  : zeRun 196 290 [some (.ref 16), o1, o2, o3, o4, o5, o6] [] (zk B im lm) = zeBh 196 296 [some (.ref 16), o1, o2, o3, o4, o5, o6] [] (zeRun 177 0 [some (.ref 16), some (.int 15)] [] (zk B im lm)) := ze_call (ok := true) rfl 3 rfl rfl rfl
theorem d_196_296 {B : zeB} {im : Nat → Nat → Int32} {lm : Nat → Nat → Int64} (o0 : Option Value) (o1 : Option Value) (o2 : Option Value) (o3 : Option Value) (o4 : Option Value) (o5 : Option Value) (o6 : Option Value) (s0 : Int32)  : zeRun 196 296 [o0, o1, o2, o3, o4, o5, o6] [.int s0] (zk B im lm) = if s0 = (-10000002) then zeRun 196 301 [o0, o1, o2, o3, o4, o5, o6] [] (zk B im lm) else zeRun 196 305 [o0, o1, o2, o3, o4, o5, o6] [] (zk B im lm) := ze_if (ok := true) rfl 2 rfl rfl
theorem d_196_301 {B : zeB} {im : Nat → Nat → Int32} {lm : Nat → Nat → Int64} (o0 : Option Value) (o1 : Option Value) (o2 : Option Value) (o3 : Option Value) (o4 : Option Value) (o5 : Option Value) (o6 : Option Value)  : zeRun 196 301 [o0, o1, o2, o3, o4, o5, o6] [] (zk B im lm) = some (some (.int 1), (zk B im lm)) := ze_ret (ok := true) rfl 3 rfl rfl
def J_196_290   (im : zI) (lm : zJ) : zR :=
    zBd (m_177 15 im lm) fun v1 im1 lm1 =>
    some (if v1 = (-10000002) then 1 else 0, im1, lm1)
theorem J_196_290_ok {B : zeB}  (o1 : Option Value) (o2 : Option Value) (o3 : Option Value) (o4 : Option Value) (o5 : Option Value) (o6 : Option Value) (im : zI) (lm : zJ) : zL B 1 (J_196_290   im lm) (zeRun 196 290 [some (.ref 16), o1, o2, o3, o4, o5, o6] [] (zk B im lm)) := by
  unfold J_196_290
  refine zL_bd (d_196_290 _ _ _ _ _ _) (m_177_ok _ _ _) fun v1 im1 lm1 => ?_
  refine zL_ifm (d_196_296 _ _ _ _ _ _ _ _) (fun h => ?_) (fun h => ?_)
  · repeat rw [if_pos h]
    exact zL_ret (d_196_301 _ _ _ _ _ _ _)
  · repeat rw [if_neg h]
    exact zL_ret (d_196_305 _ _ _ _ _ _ _)
def J_196_263  (l2 : Int32) (im : zI) (lm : zJ) : zR :=
    zBd (m_169 25 0 im lm) fun v1 im1 lm1 =>
    if v1 = (-10000001) then
      if l2 = 1 then
        J_196_290    im1 lm1
      else
        zBd (m_166 0 im1 lm1) fun v2 im2 lm2 =>
        if v2 = (-10000005) then
          J_196_290    im2 lm2
        else
          some (0, im2, lm2)
    else
      some (0, im1, lm1)
theorem J_196_263_ok {B : zeB} (l2 : Int32) (o1 : Option Value) (o3 : Option Value) (o4 : Option Value) (o5 : Option Value) (o6 : Option Value) (im : zI) (lm : zJ) : zL B 1 (J_196_263  l2 im lm) (zeRun 196 263 [some (.ref 16), o1, some (.int l2), o3, o4, o5, o6] [] (zk B im lm)) := by
  unfold J_196_263
  refine zL_bd (d_196_263 _ _ _ _ _ _) (m_169_ok _ _ _ _) fun v1 im1 lm1 => ?_
  refine zL_if (d_196_270 _ _ _ _ _ _ _) (fun h => ?_) (fun h => ?_)
  · skip
    refine zL_if (d_196_275 _ _ _ _ _ _) (fun h => ?_) (fun h => ?_)
    · skip
      exact J_196_290_ok   _ _ _ _ _ _ _ _
    · skip
      refine zL_bd (d_196_280 _ _ _ _ _ _) (m_166_ok _ _ _) fun v2 im2 lm2 => ?_
      refine zL_if (d_196_285 _ _ _ _ _ _ _) (fun h => ?_) (fun h => ?_)
      · skip
        exact J_196_290_ok   _ _ _ _ _ _ _ _
      · skip
        exact zL_ret (d_196_305 _ _ _ _ _ _ _)
  · skip
    exact zL_ret (d_196_305 _ _ _ _ _ _ _)
def J_196_260  (l2 : Int32) (s0 : Int32) (s1 : Int32) (im : zI) (lm : zJ) : zR :=
    if s0 = s1 then
      J_196_263   l2 im lm
    else
      some (0, im, lm)
theorem J_196_260_ok {B : zeB} (l2 : Int32) (s0 : Int32) (s1 : Int32) (o1 : Option Value) (o3 : Option Value) (o4 : Option Value) (o5 : Option Value) (o6 : Option Value) (im : zI) (lm : zJ) : zL B 1 (J_196_260  l2 s0 s1 im lm) (zeRun 196 260 [some (.ref 16), o1, some (.int l2), o3, o4, o5, o6] [.int s1, .int s0] (zk B im lm)) := by
  unfold J_196_260
  refine zL_if (d_196_260 _ _ _ _ _ _ _ _) (fun h => ?_) (fun h => ?_)
  · skip
    exact J_196_263_ok   _ _ _ _ _ _ _ _
  · skip
    exact zL_ret (d_196_305 _ _ _ _ _ _ _)
def J_196_227  (l2 : Int32) (l3 : Int32) (s0 : Int32) (s1 : Int32) (im : zI) (lm : zJ) : zR :=
    if s0 = s1 then
      if l3 < 0 then
        J_196_263   l2 im lm
      else
        zBd (m_169 l3 2 im lm) fun v1 im1 lm1 =>
        if v1 = 1 then
          zBd (m_169 l3 1 im1 lm1) fun v2 im2 lm2 =>
          J_196_260   l2 v2 (if l2 ≤ 1 then 0 else 1) im2 lm2
        else
          some (0, im1, lm1)
    else
      some (0, im, lm)
theorem J_196_227_ok {B : zeB} (l2 : Int32) (l3 : Int32) (s0 : Int32) (s1 : Int32) (o1 : Option Value) (o4 : Option Value) (o5 : Option Value) (o6 : Option Value) (im : zI) (lm : zJ) : zL B 1 (J_196_227  l2 l3 s0 s1 im lm) (zeRun 196 227 [some (.ref 16), o1, some (.int l2), some (.int l3), o4, o5, o6] [.int s1, .int s0] (zk B im lm)) := by
  unfold J_196_227
  refine zL_if (d_196_227 _ _ _ _ _ _ _ _) (fun h => ?_) (fun h => ?_)
  · skip
    refine zL_if (d_196_230 _ _ _ _ _ _) (fun h => ?_) (fun h => ?_)
    · skip
      exact J_196_263_ok   _ _ _ _ _ _ _ _
    · skip
      refine zL_bd (d_196_234 _ _ _ _ _ _) (m_169_ok _ _ _ _) fun v1 im1 lm1 => ?_
      refine zL_if (d_196_240 _ _ _ _ _ _ _) (fun h => ?_) (fun h => ?_)
      · skip
        refine zL_bd (d_196_244 _ _ _ _ _ _) (m_169_ok _ _ _ _) fun v2 im2 lm2 => ?_
        refine zL_ifm (d_196_250 _ _ _ _ _ _ _) (fun h => ?_) (fun h => ?_)
        · repeat rw [if_pos h]
          refine zL_eq (d_196_259 _ _ _ _ _ _ _) ?_
          exact J_196_260_ok   _ _ _ _ _ _ _ _ _ _
        · repeat rw [if_neg h]
          refine zL_eq (d_196_255 _ _ _ _ _ _ _) ?_
          exact J_196_260_ok   _ _ _ _ _ _ _ _ _ _
      · skip
        exact zL_ret (d_196_305 _ _ _ _ _ _ _)
  · skip
    exact zL_ret (d_196_305 _ _ _ _ _ _ _)
def J_196_213  (l2 : Int32) (l3 : Int32) (s0 : Int32) (im : zI) (lm : zJ) : zR :=
    J_196_227   l2 l3 s0 (if l2 = 0 then 1 else if l2 ≤ 3 then 0 else 1) im lm
theorem J_196_213_ok {B : zeB} (l2 : Int32) (l3 : Int32) (s0 : Int32) (o1 : Option Value) (o4 : Option Value) (o5 : Option Value) (o6 : Option Value) (im : zI) (lm : zJ) : zL B 1 (J_196_213  l2 l3 s0 im lm) (zeRun 196 213 [some (.ref 16), o1, some (.int l2), some (.int l3), o4, o5, o6] [.int s0] (zk B im lm)) := by
  unfold J_196_213
  refine zL_ifm (d_196_213 _ _ _ _ _ _ _) (fun h => ?_) (fun h => ?_)
  · repeat rw [if_pos h]
    refine zL_eq (d_196_222 _ _ _ _ _ _ _) ?_
    exact J_196_227_ok   _ _ _ _ _ _ _ _ _ _
  · repeat rw [if_neg h]
    refine zL_ifm (d_196_217 _ _ _ _ _ _ _) (fun h => ?_) (fun h => ?_)
    · repeat rw [if_pos h]
      refine zL_eq (d_196_226 _ _ _ _ _ _ _) ?_
      exact J_196_227_ok   _ _ _ _ _ _ _ _ _ _
    · repeat rw [if_neg h]
      refine zL_eq (d_196_222 _ _ _ _ _ _ _) ?_
      exact J_196_227_ok   _ _ _ _ _ _ _ _ _ _
def J_196_122 (K4 : Int32 → Int32 → zI → zJ → zR) (l2 : Int32) (l3 : Int32) (l4 : Int32) (s0 : Int32) (s1 : Int32) (im : zI) (lm : zJ) : zR :=
    zBd (m_169 l2 0 im lm) fun v1 im1 lm1 =>
    if v1 = (100 * ((l2 / 5) + 1)) then
      zBd (m_169 l2 3 im1 lm1) fun v2 im2 lm2 =>
      if v2 = l3 then
        zBd (m_169 l2 4 im2 lm2) fun v3 im3 lm3 =>
        if v3 = l4 then
          if l3 ≤ 0 then
            K4 (s0 + s1) (l2 + 1) im3 lm3
          else
            zBd (m_169 l2 2 im3 lm3) fun v4 im4 lm4 =>
            if v4 = 0 then
              some (0, im4, lm4)
            else
              K4 (s0 + s1) (l2 + 1) im4 lm4
        else
          some (0, im3, lm3)
      else
        some (0, im2, lm2)
    else
      some (0, im1, lm1)
theorem J_196_122_ok {B : zeB} (K4 : Int32 → Int32 → zI → zJ → zR) (hK4 : ∀ (l1 : Int32) (l2 : Int32) (o3 : Option Value) (o4 : Option Value) (o5 : Option Value) (o6 : Option Value) (im : zI) (lm : zJ), zL B 1 (K4 l1 l2 im lm) (zeRun 196 4 [some (.ref 16), some (.int l1), some (.int l2), o3, o4, o5, o6] [] (zk B im lm))) (l2 : Int32) (l3 : Int32) (l4 : Int32) (s0 : Int32) (s1 : Int32) (o1 : Option Value) (o5 : Option Value) (o6 : Option Value) (im : zI) (lm : zJ) : zL B 1 (J_196_122 K4 l2 l3 l4 s0 s1 im lm) (zeRun 196 122 [some (.ref 16), o1, some (.int l2), some (.int l3), some (.int l4), o5, o6] [.int s1, .int s0] (zk B im lm)) := by
  unfold J_196_122
  refine zL_bd (d_196_122 _ _ _ _ _ _ _ _) (m_169_ok _ _ _ _) fun v1 im1 lm1 => ?_
  refine zL_if (d_196_130 _ _ _ _ _ _ _) (fun h => ?_) (fun h => ?_)
  · skip
    refine zL_bd (d_196_141 _ _ _ _ _ _) (m_169_ok _ _ _ _) fun v2 im2 lm2 => ?_
    refine zL_if (d_196_147 _ _ _ _ _ _ _) (fun h => ?_) (fun h => ?_)
    · skip
      refine zL_bd (d_196_151 _ _ _ _ _ _) (m_169_ok _ _ _ _) fun v3 im3 lm3 => ?_
      refine zL_if (d_196_157 _ _ _ _ _ _ _) (fun h => ?_) (fun h => ?_)
      · skip
        refine zL_if (d_196_162 _ _ _ _ _ _) (fun h => ?_) (fun h => ?_)
        · skip
          refine zL_eq (d_196_177 _ _ _ _ _ _) ?_
          exact hK4 _ _ _ _ _ _ _ _
        · skip
          refine zL_bd (d_196_166 _ _ _ _ _ _) (m_169_ok _ _ _ _) fun v4 im4 lm4 => ?_
          refine zL_if (d_196_172 _ _ _ _ _ _ _) (fun h => ?_) (fun h => ?_)
          · skip
            exact zL_ret (d_196_175 _ _ _ _ _ _ _)
          · skip
            refine zL_eq (d_196_177 _ _ _ _ _ _) ?_
            exact hK4 _ _ _ _ _ _ _ _
      · skip
        exact zL_ret (d_196_175 _ _ _ _ _ _ _)
    · skip
      exact zL_ret (d_196_175 _ _ _ _ _ _ _)
  · skip
    exact zL_ret (d_196_175 _ _ _ _ _ _ _)
def J_196_58 (K4 : Int32 → Int32 → zI → zJ → zR) (K19 : Int32 → Int32 → Int32 → Int32 → Int32 → zI → zJ → zR) (l1 : Int32) (l2 : Int32) (l4 : Int32) (l5 : Int32) (l6 : Int32) (s0 : Int32) (s1 : Int32) (im : zI) (lm : zJ) : zR :=
    if l6 = 0 then
      K19 l1 l2 (s0 + s1) l4 (l5 + 1) im lm
    else
      zBd (m_172 l5 5 im lm) fun v1 im1 lm1 =>
      if v1 = 1 then
        zBd (m_172 l5 7 im1 lm1) fun v2 im2 lm2 =>
        if v2 = 0 then
          zBd (m_172 l5 0 im2 lm2) fun v3 im3 lm3 =>
          K19 l1 l2 (s0 + s1) v3 (l5 + 1) im3 lm3
        else
          K19 l1 l2 (s0 + s1) l4 (l5 + 1) im2 lm2
      else
        K19 l1 l2 (s0 + s1) l4 (l5 + 1) im1 lm1
theorem J_196_58_ok {B : zeB} (K4 : Int32 → Int32 → zI → zJ → zR) (hK4 : ∀ (l1 : Int32) (l2 : Int32) (o3 : Option Value) (o4 : Option Value) (o5 : Option Value) (o6 : Option Value) (im : zI) (lm : zJ), zL B 1 (K4 l1 l2 im lm) (zeRun 196 4 [some (.ref 16), some (.int l1), some (.int l2), o3, o4, o5, o6] [] (zk B im lm))) (K19 : Int32 → Int32 → Int32 → Int32 → Int32 → zI → zJ → zR) (hK19 : ∀ (l1 : Int32) (l2 : Int32) (l3 : Int32) (l4 : Int32) (l5 : Int32) (o6 : Option Value) (im : zI) (lm : zJ), zL B 1 (K19 l1 l2 l3 l4 l5 im lm) (zeRun 196 19 [some (.ref 16), some (.int l1), some (.int l2), some (.int l3), some (.int l4), some (.int l5), o6] [] (zk B im lm))) (l1 : Int32) (l2 : Int32) (l4 : Int32) (l5 : Int32) (l6 : Int32) (s0 : Int32) (s1 : Int32) (o3 : Option Value) (im : zI) (lm : zJ) : zL B 1 (J_196_58 K4 K19 l1 l2 l4 l5 l6 s0 s1 im lm) (zeRun 196 58 [some (.ref 16), some (.int l1), some (.int l2), o3, some (.int l4), some (.int l5), some (.int l6)] [.int s1, .int s0] (zk B im lm)) := by
  unfold J_196_58
  refine zL_if (d_196_58 _ _ _ _ _ _ _ _) (fun h => ?_) (fun h => ?_)
  · skip
    refine zL_eq (d_196_97 _ _ _ _ _ _) ?_
    exact hK19 _ _ _ _ _ _ _ _
  · skip
    refine zL_bd (d_196_65 _ _ _ _ _ _) (m_172_ok _ _ _ _) fun v1 im1 lm1 => ?_
    refine zL_if (d_196_72 _ _ _ _ _ _ _) (fun h => ?_) (fun h => ?_)
    · skip
      refine zL_bd (d_196_76 _ _ _ _ _ _) (m_172_ok _ _ _ _) fun v2 im2 lm2 => ?_
      refine zL_if (d_196_84 _ _ _ _ _ _ _) (fun h => ?_) (fun h => ?_)
      · skip
        refine zL_bd (d_196_87 _ _ _ _ _ _) (m_172_ok _ _ _ _) fun v3 im3 lm3 => ?_
        refine zL_eq (d_196_94 _ _ _ _ _ _ _) ?_
        exact hK19 _ _ _ _ _ _ _ _
      · skip
        refine zL_eq (d_196_97 _ _ _ _ _ _) ?_
        exact hK19 _ _ _ _ _ _ _ _
    · skip
      refine zL_eq (d_196_97 _ _ _ _ _ _) ?_
      exact hK19 _ _ _ _ _ _ _ _
def J_196_45 (K4 : Int32 → Int32 → zI → zJ → zR) (K19 : Int32 → Int32 → Int32 → Int32 → Int32 → zI → zJ → zR) (l1 : Int32) (l2 : Int32) (l3 : Int32) (l4 : Int32) (l5 : Int32) (s0 : Int32) (im : zI) (lm : zJ) : zR :=
    J_196_58 K4 K19  l1 l2 l4 l5 s0 l3 (if s0 = 0 then 0 else 1) im lm
theorem J_196_45_ok {B : zeB} (K4 : Int32 → Int32 → zI → zJ → zR) (hK4 : ∀ (l1 : Int32) (l2 : Int32) (o3 : Option Value) (o4 : Option Value) (o5 : Option Value) (o6 : Option Value) (im : zI) (lm : zJ), zL B 1 (K4 l1 l2 im lm) (zeRun 196 4 [some (.ref 16), some (.int l1), some (.int l2), o3, o4, o5, o6] [] (zk B im lm))) (K19 : Int32 → Int32 → Int32 → Int32 → Int32 → zI → zJ → zR) (hK19 : ∀ (l1 : Int32) (l2 : Int32) (l3 : Int32) (l4 : Int32) (l5 : Int32) (o6 : Option Value) (im : zI) (lm : zJ), zL B 1 (K19 l1 l2 l3 l4 l5 im lm) (zeRun 196 19 [some (.ref 16), some (.int l1), some (.int l2), some (.int l3), some (.int l4), some (.int l5), o6] [] (zk B im lm))) (l1 : Int32) (l2 : Int32) (l3 : Int32) (l4 : Int32) (l5 : Int32) (s0 : Int32) (o6 : Option Value) (im : zI) (lm : zJ) : zL B 1 (J_196_45 K4 K19 l1 l2 l3 l4 l5 s0 im lm) (zeRun 196 45 [some (.ref 16), some (.int l1), some (.int l2), some (.int l3), some (.int l4), some (.int l5), o6] [.int s0] (zk B im lm)) := by
  unfold J_196_45
  refine zL_ifm (d_196_45 _ _ _ _ _ _ _) (fun h => ?_) (fun h => ?_)
  · repeat rw [if_pos h]
    refine zL_eq (d_196_57 _ _ _ _ _ _ _) ?_
    exact J_196_58_ok _ hK4 _ hK19  _ _ _ _ _ _ _ _ _ _
  · repeat rw [if_neg h]
    refine zL_eq (d_196_53 _ _ _ _ _ _ _) ?_
    exact J_196_58_ok _ hK4 _ hK19  _ _ _ _ _ _ _ _ _ _
def F_196_19 (K4 : Int32 → Int32 → zI → zJ → zR) : Nat → Int32 → Int32 → Int32 → Int32 → Int32 → zI → zJ → zR
  | 0, _, _, _, _, _, _, _ => none
  | n + 1, l1, l2, l3, l4, l5, im, lm =>
    zBd (m_177 5 im lm) fun v1 im1 lm1 =>
    if v1 ≤ l5 then
      zBd (m_169 l2 2 im1 lm1) fun v2 im2 lm2 =>
      J_196_122 K4  l2 l3 l4 l1 (if v2 = 0 then 1 else 0) im2 lm2
    else
      zBd (m_172 l5 2 im1 lm1) fun v3 im3 lm3 =>
      J_196_45 K4 (F_196_19 K4 n)  l1 l2 l3 l4 l5 (if v3 = l2 then 1 else 0) im3 lm3
theorem F_196_19_ok {B : zeB} (K4 : Int32 → Int32 → zI → zJ → zR) (hK4 : ∀ (l1 : Int32) (l2 : Int32) (o3 : Option Value) (o4 : Option Value) (o5 : Option Value) (o6 : Option Value) (im : zI) (lm : zJ), zL B 1 (K4 l1 l2 im lm) (zeRun 196 4 [some (.ref 16), some (.int l1), some (.int l2), o3, o4, o5, o6] [] (zk B im lm))) : ∀ (n : Nat) (l1 : Int32) (l2 : Int32) (l3 : Int32) (l4 : Int32) (l5 : Int32) (o6 : Option Value) (im : zI) (lm : zJ), zL B 1 (F_196_19 K4 n l1 l2 l3 l4 l5 im lm) (zeRun 196 19 [some (.ref 16), some (.int l1), some (.int l2), some (.int l3), some (.int l4), some (.int l5), o6] [] (zk B im lm)) := by
  intro n
  induction n with
  | zero => intros; exact zL_none
  | succ n ih =>
    intro l1 l2 l3 l4 l5 o6 im lm
    unfold F_196_19
    refine zL_bd (d_196_19 _ _ _ _ _ _) (m_177_ok _ _ _) fun v1 im1 lm1 => ?_
    refine zL_if (d_196_26 _ _ _ _ _ _ _ _) (fun h => ?_) (fun h => ?_)
    · skip
      refine zL_bd (d_196_107 _ _ _ _ _ _) (m_169_ok _ _ _ _) fun v2 im2 lm2 => ?_
      refine zL_ifm (d_196_114 _ _ _ _ _ _ _ _) (fun h => ?_) (fun h => ?_)
      · repeat rw [if_pos h]
        refine zL_eq (d_196_117 _ _ _ _ _ _ _) ?_
        exact J_196_122_ok _ hK4  _ _ _ _ _ _ _ _ _ _
      · repeat rw [if_neg h]
        refine zL_eq (d_196_121 _ _ _ _ _ _ _) ?_
        exact J_196_122_ok _ hK4  _ _ _ _ _ _ _ _ _ _
    · skip
      refine zL_bd (d_196_29 _ _ _ _ _ _) (m_172_ok _ _ _ _) fun v3 im3 lm3 => ?_
      refine zL_ifm (d_196_36 _ _ _ _ _ _ _) (fun h => ?_) (fun h => ?_)
      · repeat rw [if_pos h]
        refine zL_eq (d_196_40 _ _ _ _ _ _) ?_
        exact J_196_45_ok _ hK4 _ ih  _ _ _ _ _ _ _ _ _
      · repeat rw [if_neg h]
        refine zL_eq (d_196_44 _ _ _ _ _ _) ?_
        exact J_196_45_ok _ hK4 _ ih  _ _ _ _ _ _ _ _ _
def F_196_4  : Nat → Int32 → Int32 → zI → zJ → zR
  | 0, _, _, _, _ => none
  | n + 1, l1, l2, im, lm =>
    if 25 ≤ l2 then
      zBd (m_177 0 im lm) fun v1 im1 lm1 =>
      zBd (m_177 3 im1 lm1) fun v2 im2 lm2 =>
      zBd (m_177 2 im2 lm2) fun v3 im3 lm3 =>
      if v3 = l1 then
        J_196_213   v1 v2 (if 0 ≤ v2 then 0 else 1) im3 lm3
      else
        some (0, im3, lm3)
    else
      F_196_19 (F_196_4  n) 2000 l1 l2 0 (-10000005) 0 im lm
theorem F_196_4_ok {B : zeB} : ∀ (n : Nat) (l1 : Int32) (l2 : Int32) (o3 : Option Value) (o4 : Option Value) (o5 : Option Value) (o6 : Option Value) (im : zI) (lm : zJ), zL B 1 (F_196_4  n l1 l2 im lm) (zeRun 196 4 [some (.ref 16), some (.int l1), some (.int l2), o3, o4, o5, o6] [] (zk B im lm)) := by
  intro n
  induction n with
  | zero => intros; exact zL_none
  | succ n ih =>
    intro l1 l2 o3 o4 o5 o6 im lm
    unfold F_196_4
    refine zL_if (d_196_4 _ _ _ _ _ _) (fun h => ?_) (fun h => ?_)
    · skip
      refine zL_bd (d_196_183 _ _ _ _ _ _) (m_177_ok _ _ _) fun v1 im1 lm1 => ?_
      refine zL_bd (d_196_188 _ _ _ _ _ _ _) (m_177_ok _ _ _) fun v2 im2 lm2 => ?_
      refine zL_bd (d_196_194 _ _ _ _ _ _ _) (m_177_ok _ _ _) fun v3 im3 lm3 => ?_
      refine zL_if (d_196_200 _ _ _ _ _ _ _) (fun h => ?_) (fun h => ?_)
      · skip
        refine zL_ifm (d_196_204 _ _ _ _ _ _) (fun h => ?_) (fun h => ?_)
        · repeat rw [if_pos h]
          refine zL_eq (d_196_212 _ _ _ _ _ _) ?_
          exact J_196_213_ok   _ _ _ _ _ _ _ _ _
        · repeat rw [if_neg h]
          refine zL_eq (d_196_208 _ _ _ _ _ _) ?_
          exact J_196_213_ok   _ _ _ _ _ _ _ _ _
      · skip
        exact zL_ret (d_196_305 _ _ _ _ _ _ _)
    · skip
      refine zL_eq (d_196_10 _ _ _ _ _ _) ?_
      exact F_196_19_ok _ ih _ _ _ _ _ _ _ _ _
def m_196  (im : zI) (lm : zJ) : zR :=
    F_196_4  2000 0 0 im lm
theorem m_196_ok {B : zeB}  (im : zI) (lm : zJ) : zL B 1 (m_196  im lm) (zeRun 196 0 [some (.ref 16), none, none, none, none, none, none] [] (zk B im lm)) := by
  unfold m_196
  refine zL_eq (d_196_0 _ _ _ _ _ _) ?_
  exact F_196_4_ok  _ _ _ _ _ _ _ _ _
/-! X7_doubled -/
theorem d_112_0 {B : zeB} {im : Nat → Nat → Int32} {lm : Nat → Nat → Int64} (l0 : Int32)  : zeRun 112 0 [some (.int l0)] [] (zk B im lm) = if l0 ≤ 0 then zeRun 112 10 [some (.int l0)] [] (zk B im lm) else zeRun 112 4 [some (.int l0)] [] (zk B im lm) := ze_if (ok := true) rfl 2 rfl rfl
theorem d_112_10 {B : zeB} {im : Nat → Nat → Int32} {lm : Nat → Nat → Int64} (l0 : Int32)  : zeRun 112 10 [some (.int l0)] [] (zk B im lm) = some (some (.int l0), (zk B im lm)) := ze_ret (ok := true) rfl 2 rfl rfl
theorem d_112_4 {B : zeB} {im : Nat → Nat → Int32} {lm : Nat → Nat → Int64} (l0 : Int32)  : zeRun 112 4 [some (.int l0)] [] (zk B im lm) = some (some (.int (2 * l0)), (zk B im lm)) := ze_ret (ok := true) rfl 5 rfl rfl
def m_112 (l0 : Int32) (im : zI) (lm : zJ) : zR :=
    some (if l0 ≤ 0 then l0 else (2 * l0), im, lm)
theorem m_112_ok {B : zeB} (l0 : Int32) (im : zI) (lm : zJ) : zL B 1 (m_112 l0 im lm) (zeRun 112 0 [some (.int l0)] [] (zk B im lm)) := by
  unfold m_112
  refine zL_ifm (d_112_0 _) (fun h => ?_) (fun h => ?_)
  · repeat rw [if_pos h]
    exact zL_ret (d_112_10 _)
  · repeat rw [if_neg h]
    exact zL_ret (d_112_4 _)
/-! X7_safeWager -/
theorem d_113_0 {B : zeB} {im : Nat → Nat → Int32} {lm : Nat → Nat → Int64} (l1 : Int32) (o2 : Option Value) (o3 : Option Value) (o4 : Option Value)  : zeRun 113 0 [some (.ref 16), some (.int l1), o2, o3, o4] [] (zk B im lm) = zeBh 113 5 [some (.ref 16), some (.int l1), o2, o3, o4] [] (zeRun 38 0 [some (.ref 16), some (.int l1)] [] (zk B im lm)) := ze_call (ok := true) rfl 3 rfl rfl rfl
theorem d_113_5 {B : zeB} {im : Nat → Nat → Int32} {lm : Nat → Nat → Int64} (l1 : Int32) (o2 : Option Value) (o3 : Option Value) (o4 : Option Value) (s0 : Int32)  : zeRun 113 5 [some (.ref 16), some (.int l1), o2, o3, o4] [.int s0] (zk B im lm) = if s0 = 0 then zeRun 113 8 [some (.ref 16), some (.int l1), o2, o3, o4] [] (zk B im lm) else zeRun 113 11 [some (.ref 16), some (.int l1), o2, o3, o4] [] (zk B im lm) := ze_if (ok := true) rfl 1 rfl rfl
theorem d_113_8 {B : zeB} {im : Nat → Nat → Int32} {lm : Nat → Nat → Int64} (o0 : Option Value) (o1 : Option Value) (o2 : Option Value) (o3 : Option Value) (o4 : Option Value)  : zeRun 113 8 [o0, o1, o2, o3, o4] [] (zk B im lm) = some (some (.int (-10000001)), (zk B im lm)) := ze_ret (ok := true) rfl 2 rfl rfl
theorem d_113_11 {B : zeB} {im : Nat → Nat → Int32} {lm : Nat → Nat → Int64} (l1 : Int32) (o2 : Option Value) (o3 : Option Value) (o4 : Option Value) (c0 : zeInb l1 6 = true) : zeRun 113 11 [some (.ref 16), some (.int l1), o2, o3, o4] [] (zk B im lm) = if 0 < (im 33 (Int32.toNatClampNeg l1)) then zeRun 113 28 [some (.ref 16), some (.int l1), some (.int (im 33 (Int32.toNatClampNeg l1))), o3, o4] [] (zk B im lm) else zeRun 113 25 [some (.ref 16), some (.int l1), some (.int (im 33 (Int32.toNatClampNeg l1))), o3, o4] [] (zk B im lm) := ze_if (ok := (zeInb l1 6 && true)) rfl 8 rfl (zeA2 c0 rfl)
theorem d_113_28 {B : zeB} {im : Nat → Nat → Int32} {lm : Nat → Nat → Int64} (l1 : Int32) (l2 : Int32) (o3 : Option Value) (o4 : Option Value)  : zeRun 113 28 [some (.ref 16), some (.int l1), some (.int l2), o3, o4] [] (zk B im lm) = zeRun 113 33 [some (.ref 16), some (.int l1), some (.int l2), some (.int 0), some (.int 0)] [] (zk B im lm) := ze_go (ok := true) rfl 4 rfl rfl
theorem d_113_25 {B : zeB} {im : Nat → Nat → Int32} {lm : Nat → Nat → Int64} (o0 : Option Value) (o1 : Option Value) (o2 : Option Value) (o3 : Option Value) (o4 : Option Value)  : zeRun 113 25 [o0, o1, o2, o3, o4] [] (zk B im lm) = some (some (.int (-10000005)), (zk B im lm)) := ze_ret (ok := true) rfl 2 rfl rfl
theorem d_113_33 {B : zeB} {im : Nat → Nat → Int32} {lm : Nat → Nat → Int64} (l1 : Int32) (l2 : Int32) (l3 : Int32) (l4 : Int32)  : zeRun 113 33 [some (.ref 16), some (.int l1), some (.int l2), some (.int l3), some (.int l4)] [] (zk B im lm) = if (im 17 1) ≤ l4 then zeRun 113 79 [some (.ref 16), some (.int l1), some (.int l2), some (.int l3), some (.int l4)] [] (zk B im lm) else zeRun 113 45 [some (.ref 16), some (.int l1), some (.int l2), some (.int l3), some (.int l4)] [] (zk B im lm) := ze_if (ok := true) rfl 5 rfl rfl
theorem d_113_79 {B : zeB} {im : Nat → Nat → Int32} {lm : Nat → Nat → Int64} (o0 : Option Value) (o1 : Option Value) (l2 : Int32) (l3 : Int32) (o4 : Option Value)  : zeRun 113 79 [o0, o1, some (.int l2), some (.int l3), o4] [] (zk B im lm) = if l2 < l3 then zeRun 113 88 [o0, o1, some (.int l2), some (.int l3), o4] [] (zk B im lm) else zeRun 113 84 [o0, o1, some (.int l2), some (.int l3), o4] [] (zk B im lm) := ze_if (ok := true) rfl 3 rfl rfl
theorem d_113_88 {B : zeB} {im : Nat → Nat → Int32} {lm : Nat → Nat → Int64} (o0 : Option Value) (o1 : Option Value) (o2 : Option Value) (o3 : Option Value) (o4 : Option Value)  : zeRun 113 88 [o0, o1, o2, o3, o4] [] (zk B im lm) = some (some (.int (-10000005)), (zk B im lm)) := ze_ret (ok := true) rfl 2 rfl rfl
theorem d_113_84 {B : zeB} {im : Nat → Nat → Int32} {lm : Nat → Nat → Int64} (o0 : Option Value) (o1 : Option Value) (o2 : Option Value) (l3 : Int32) (o4 : Option Value)  : zeRun 113 84 [o0, o1, o2, some (.int l3), o4] [] (zk B im lm) = some (some (.int l3), (zk B im lm)) := ze_ret (ok := true) rfl 3 rfl rfl
theorem d_113_45 {B : zeB} {im : Nat → Nat → Int32} {lm : Nat → Nat → Int64} (l1 : Int32) (l2 : Int32) (l3 : Int32) (l4 : Int32)  : zeRun 113 45 [some (.ref 16), some (.int l1), some (.int l2), some (.int l3), some (.int l4)] [] (zk B im lm) = if l4 = l1 then zeRun 113 73 [some (.ref 16), some (.int l1), some (.int l2), some (.int l3), some (.int l4)] [] (zk B im lm) else zeRun 113 51 [some (.ref 16), some (.int l1), some (.int l2), some (.int l3), some (.int l4)] [] (zk B im lm) := ze_if (ok := true) rfl 3 rfl rfl
theorem d_113_73 {B : zeB} {im : Nat → Nat → Int32} {lm : Nat → Nat → Int64} (l1 : Int32) (l2 : Int32) (l3 : Int32) (l4 : Int32)  : zeRun 113 73 [some (.ref 16), some (.int l1), some (.int l2), some (.int l3), some (.int l4)] [] (zk B im lm) = zeRun 113 33 [some (.ref 16), some (.int l1), some (.int l2), some (.int l3), some (.int (l4 + 1))] [] (zk B im lm) := ze_go (ok := true) rfl 2 rfl rfl
theorem d_113_51 {B : zeB} {im : Nat → Nat → Int32} {lm : Nat → Nat → Int64} (l1 : Int32) (l2 : Int32) (l3 : Int32) (l4 : Int32) (c0 : zeInb l4 6 = true) : zeRun 113 51 [some (.ref 16), some (.int l1), some (.int l2), some (.int l3), some (.int l4)] [] (zk B im lm) = zeBh 113 65 [some (.ref 16), some (.int l1), some (.int l2), some (.int l3), some (.int l4)] [.int l3] (zeRun 112 0 [some (.int (im 33 (Int32.toNatClampNeg l4)))] [] (zk B im lm)) := ze_call (ok := (zeInb l4 6 && true)) rfl 7 rfl rfl (zeA2 c0 rfl)
theorem d_113_65 {B : zeB} {im : Nat → Nat → Int32} {lm : Nat → Nat → Int64} (l1 : Int32) (l2 : Int32) (o3 : Option Value) (l4 : Int32) (s0 : Int32) (s1 : Int32)  : zeRun 113 65 [some (.ref 16), some (.int l1), some (.int l2), o3, some (.int l4)] [.int s1, .int s0] (zk B im lm) = zeRun 113 33 [some (.ref 16), some (.int l1), some (.int l2), some (.int (if s0 < ((s1 + 1) - l2) then ((s1 + 1) - l2) else s0)), some (.int (l4 + 1))] [] (zk B im lm) := ze_go (ok := true) rfl 8 rfl rfl
def F_113_33  : Nat → Int32 → Int32 → Int32 → Int32 → zI → zJ → zR
  | 0, _, _, _, _, _, _ => none
  | n + 1, l1, l2, l3, l4, im, lm =>
    if (im 17 1) ≤ l4 then
      some (if l2 < l3 then (-10000005) else l3, im, lm)
    else
      zCk (if l4 = l1 then true else zeInb l4 6) <|
      F_113_33  n l1 l2 (if l4 = l1 then l3 else (if l3 < (((if (im 33 (Int32.toNatClampNeg l4)) ≤ 0 then (im 33 (Int32.toNatClampNeg l4)) else (2 * (im 33 (Int32.toNatClampNeg l4))) : Int32) + 1) - l2) then (((if (im 33 (Int32.toNatClampNeg l4)) ≤ 0 then (im 33 (Int32.toNatClampNeg l4)) else (2 * (im 33 (Int32.toNatClampNeg l4))) : Int32) + 1) - l2) else l3)) (l4 + 1) im lm
theorem F_113_33_ok {B : zeB} : ∀ (n : Nat) (l1 : Int32) (l2 : Int32) (l3 : Int32) (l4 : Int32)  (im : zI) (lm : zJ), zL B 1 (F_113_33  n l1 l2 l3 l4 im lm) (zeRun 113 33 [some (.ref 16), some (.int l1), some (.int l2), some (.int l3), some (.int l4)] [] (zk B im lm)) := by
  intro n
  induction n with
  | zero => intros; exact zL_none
  | succ n ih =>
    intro l1 l2 l3 l4 im lm
    unfold F_113_33
    refine zL_if (d_113_33 _ _ _ _) (fun h => ?_) (fun h => ?_)
    · skip
      refine zL_ifm (d_113_79 _ _ _ _ _) (fun h => ?_) (fun h => ?_)
      · repeat rw [if_pos h]
        exact zL_ret (d_113_88 _ _ _ _ _)
      · repeat rw [if_neg h]
        exact zL_ret (d_113_84 _ _ _ _ _)
    · skip
      refine zL_ifm (d_113_45 _ _ _ _) (fun h => ?_) (fun h => ?_)
      · repeat rw [if_pos h]
        refine zL_eq (d_113_73 _ _ _ _) ?_
        refine zL_ckt ?_
        exact ih _ _ _ _ _ _
      · repeat rw [if_neg h]
        refine zL_ck fun c1 => ?_
        refine zL_bdp (e := (if (im 33 (Int32.toNatClampNeg l4)) ≤ 0 then (im 33 (Int32.toNatClampNeg l4)) else (2 * (im 33 (Int32.toNatClampNeg l4))) : Int32)) (d_113_51 _ _ _ _ c1) (m_112_ok _ _ _) ?_
        refine zL_eq (d_113_65 _ _ _ _ _ _) ?_
        exact ih _ _ _ _ _ _
def m_113 (l1 : Int32) (im : zI) (lm : zJ) : zR :=
    if (if l1 < 0 then 0 else if (im 17 1) ≤ l1 then 0 else 1 : Int32) = 0 then
      some ((-10000001), im, lm)
    else
      zCk (zeInb l1 6) <|
      if 0 < (im 33 (Int32.toNatClampNeg l1)) then
        F_113_33  2000 l1 (im 33 (Int32.toNatClampNeg l1)) 0 0 im lm
      else
        some ((-10000005), im, lm)
theorem m_113_ok {B : zeB} (l1 : Int32) (im : zI) (lm : zJ) : zL B 1 (m_113 l1 im lm) (zeRun 113 0 [some (.ref 16), some (.int l1), none, none, none] [] (zk B im lm)) := by
  unfold m_113
  refine zL_bdp (e := (if l1 < 0 then 0 else if (im 17 1) ≤ l1 then 0 else 1 : Int32)) (d_113_0 _ _ _ _) (m_38_ok _ _ _) ?_
  refine zL_if (d_113_5 _ _ _ _ _) (fun h => ?_) (fun h => ?_)
  · skip
    exact zL_ret (d_113_8 _ _ _ _ _)
  · skip
    refine zL_ck fun c1 => ?_
    refine zL_if (d_113_11 _ _ _ _ c1) (fun h => ?_) (fun h => ?_)
    · skip
      refine zL_eq (d_113_28 _ _ _ _) ?_
      exact F_113_33_ok  _ _ _ _ _ _ _
    · skip
      exact zL_ret (d_113_25 _ _ _ _ _)
