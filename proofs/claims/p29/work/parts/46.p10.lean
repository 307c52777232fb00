/-! pure: L_ranks -/
/-! L_ranks -/
theorem d_195_0 {B : zeB} {im : Nat → Nat → Int32} {lm : Nat → Nat → Int64} (o1 : Option Value) (o2 : Option Value) (o3 : Option Value) (o4 : Option Value) (o5 : Option Value) (o6 : Option Value) (o7 : Option Value) (o8 : Option Value) (o9 : Option Value)  : zeRun 195 0 [some (.ref 16), o1, o2, o3, o4, o5, o6, o7, o8, o9] [] (zk B im lm) = zeBh 195 5 [some (.ref 16), o1, o2, o3, o4, o5, o6, o7, o8, o9] [] (zeRun 177 0 [some (.ref 16), some (.int 1)] [] (zk B im lm)) := ze_call (ok := true) rfl 3 rfl rfl rfl
theorem d_195_5 {B : zeB} {im : Nat → Nat → Int32} {lm : Nat → Nat → Int64} (o1 : Option Value) (o2 : Option Value) (o3 : Option Value) (o4 : Option Value) (o5 : Option Value) (o6 : Option Value) (o7 : Option Value) (o8 : Option Value) (o9 : Option Value) (s0 : Int32)  : zeRun 195 5 [some (.ref 16), o1, o2, o3, o4, o5, o6, o7, o8, o9] [.int s0] (zk B im lm) = zeRun 195 10 [some (.ref 16), some (.int s0), some (.int 0), some (.int 0), o4, o5, o6, o7, o8, o9] [] (zk B im lm) := ze_go (ok := true) rfl 5 rfl rfl
theorem d_195_10 {B : zeB} {im : Nat → Nat → Int32} {lm : Nat → Nat → Int64} (l1 : Int32) (l2 : Int32) (l3 : Int32) (o4 : Option Value) (o5 : Option Value) (o6 : Option Value) (o7 : Option Value) (o8 : Option Value) (o9 : Option Value)  : zeRun 195 10 [some (.ref 16), some (.int l1), some (.int l2), some (.int l3), o4, o5, o6, o7, o8, o9] [] (zk B im lm) = if l1 ≤ l3 then zeRun 195 236 [some (.ref 16), some (.int l1), some (.int l2), some (.int l3), o4, o5, o6, o7, o8, o9] [] (zk B im lm) else zeRun 195 15 [some (.ref 16), some (.int l1), some (.int l2), some (.int l3), o4, o5, o6, o7, o8, o9] [] (zk B im lm) := ze_if (ok := true) rfl 3 rfl rfl
theorem d_195_236 {B : zeB} {im : Nat → Nat → Int32} {lm : Nat → Nat → Int64} (l1 : Int32) (l2 : Int32) (o3 : Option Value) (o4 : Option Value) (o5 : Option Value) (o6 : Option Value) (o7 : Option Value) (o8 : Option Value) (o9 : Option Value)  : zeRun 195 236 [some (.ref 16), some (.int l1), some (.int l2), o3, o4, o5, o6, o7, o8, o9] [] (zk B im lm) = zeBh 195 242 [some (.ref 16), some (.int l1), some (.int l2), o3, o4, o5, o6, o7, o8, o9] [] (zeRun 177 0 [some (.ref 16), some (.int 6)] [] (zk B im lm)) := ze_call (ok := true) rfl 3 rfl rfl rfl
theorem d_195_242 {B : zeB} {im : Nat → Nat → Int32} {lm : Nat → Nat → Int64} (l1 : Int32) (l2 : Int32) (o3 : Option Value) (o4 : Option Value) (o5 : Option Value) (o6 : Option Value) (o7 : Option Value) (o8 : Option Value) (o9 : Option Value) (s0 : Int32)  : zeRun 195 242 [some (.ref 16), some (.int l1), some (.int l2), o3, o4, o5, o6, o7, o8, o9] [.int s0] (zk B im lm) = if s0 = l2 then zeRun 195 246 [some (.ref 16), some (.int l1), some (.int l2), o3, o4, o5, o6, o7, o8, o9] [] (zk B im lm) else zeRun 195 281 [some (.ref 16), some (.int l1), some (.int l2), o3, o4, o5, o6, o7, o8, o9] [] (zk B im lm) := ze_if (ok := true) rfl 2 rfl rfl
theorem d_195_246 {B : zeB} {im : Nat → Nat → Int32} {lm : Nat → Nat → Int64} (l1 : Int32) (o2 : Option Value) (o3 : Option Value) (o4 : Option Value) (o5 : Option Value) (o6 : Option Value) (o7 : Option Value) (o8 : Option Value) (o9 : Option Value)  : zeRun 195 246 [some (.ref 16), some (.int l1), o2, o3, o4, o5, o6, o7, o8, o9] [] (zk B im lm) = zeBh 195 251 [some (.ref 16), some (.int l1), o2, o3, o4, o5, o6, o7, o8, o9] [] (zeRun 163 0 [some (.ref 16), some (.int l1)] [] (zk B im lm)) := ze_call (ok := true) rfl 3 rfl rfl rfl
theorem d_195_251 {B : zeB} {im : Nat → Nat → Int32} {lm : Nat → Nat → Int64} (l1 : Int32) (o2 : Option Value) (o3 : Option Value) (o4 : Option Value) (o5 : Option Value) (o6 : Option Value) (o7 : Option Value) (o8 : Option Value) (o9 : Option Value) (s0 : Int32)  : zeRun 195 251 [some (.ref 16), some (.int l1), o2, o3, o4, o5, o6, o7, o8, o9] [.int s0] (zk B im lm) = if s0 = (-10000005) then zeRun 195 256 [some (.ref 16), some (.int l1), o2, o3, o4, o5, o6, o7, o8, o9] [] (zk B im lm) else zeRun 195 281 [some (.ref 16), some (.int l1), o2, o3, o4, o5, o6, o7, o8, o9] [] (zk B im lm) := ze_if (ok := true) rfl 2 rfl rfl
theorem d_195_256 {B : zeB} {im : Nat → Nat → Int32} {lm : Nat → Nat → Int64} (l1 : Int32) (o2 : Option Value) (o3 : Option Value) (o4 : Option Value) (o5 : Option Value) (o6 : Option Value) (o7 : Option Value) (o8 : Option Value) (o9 : Option Value)  : zeRun 195 256 [some (.ref 16), some (.int l1), o2, o3, o4, o5, o6, o7, o8, o9] [] (zk B im lm) = zeBh 195 261 [some (.ref 16), some (.int l1), o2, o3, o4, o5, o6, o7, o8, o9] [] (zeRun 163 0 [some (.ref 16), some (.int (-1))] [] (zk B im lm)) := ze_call (ok := true) rfl 3 rfl rfl rfl
theorem d_195_261 {B : zeB} {im : Nat → Nat → Int32} {lm : Nat → Nat → Int64} (l1 : Int32) (o2 : Option Value) (o3 : Option Value) (o4 : Option Value) (o5 : Option Value) (o6 : Option Value) (o7 : Option Value) (o8 : Option Value) (o9 : Option Value) (s0 : Int32)  : zeRun 195 261 [some (.ref 16), some (.int l1), o2, o3, o4, o5, o6, o7, o8, o9] [.int s0] (zk B im lm) = if s0 = (-10000002) then zeRun 195 266 [some (.ref 16), some (.int l1), o2, o3, o4, o5, o6, o7, o8, o9] [] (zk B im lm) else zeRun 195 281 [some (.ref 16), some (.int l1), o2, o3, o4, o5, o6, o7, o8, o9] [] (zk B im lm) := ze_if (ok := true) rfl 2 rfl rfl
theorem d_195_266 {B : zeB} {im : Nat → Nat → Int32} {lm : Nat → Nat → Int64} (l1 : Int32) (o2 : Option Value) (o3 : Option Value) (o4 : Option Value) (o5 : Option Value) (o6 : Option Value) (o7 : Option Value) (o8 : Option Value) (o9 : Option Value)  : zeRun 195 266 [some (.ref 16), some (.int l1), o2, o3, o4, o5, o6, o7, o8, o9] [] (zk B im lm) = zeBh 195 272 [some (.ref 16), some (.int l1), o2, o3, o4, o5, o6, o7, o8, o9] [] (zeRun 156 0 [some (.ref 16), some (.int l1), some (.int 0)] [] (zk B im lm)) := ze_call (ok := true) rfl 4 rfl rfl rfl
theorem d_195_272 {B : zeB} {im : Nat → Nat → Int32} {lm : Nat → Nat → Int64} (o0 : Option Value) (o1 : Option Value) (o2 : Option Value) (o3 : Option Value) (o4 : Option Value) (o5 : Option Value) (o6 : Option Value) (o7 : Option Value) (o8 : Option Value) (o9 : Option Value) (s0 : Int32)  : zeRun 195 272 [o0, o1, o2, o3, o4, o5, o6, o7, o8, o9] [.int s0] (zk B im lm) = if s0 = (-10000001) then zeRun 195 277 [o0, o1, o2, o3, o4, o5, o6, o7, o8, o9] [] (zk B im lm) else zeRun 195 281 [o0, o1, o2, o3, o4, o5, o6, o7, o8, o9] [] (zk B im lm) := ze_if (ok := true) rfl 2 rfl rfl
theorem d_195_277 {B : zeB} {im : Nat → Nat → Int32} {lm : Nat → Nat → Int64} (o0 : Option Value) (o1 : Option Value) (o2 : Option Value) (o3 : Option Value) (o4 : Option Value) (o5 : Option Value) (o6 : Option Value) (o7 : Option Value) (o8 : Option Value) (o9 : Option Value)  : zeRun 195 277 [o0, o1, o2, o3, o4, o5, o6, o7, o8, o9] [] (zk B im lm) = some (some (.int 1), (zk B im lm)) := ze_ret (ok := true) rfl 3 rfl rfl
theorem d_195_281 {B : zeB} {im : Nat → Nat → Int32} {lm : Nat → Nat → Int64} (o0 : Option Value) (o1 : Option Value) (o2 : Option Value) (o3 : Option Value) (o4 : Option Value) (o5 : Option Value) (o6 : Option Value) (o7 : Option Value) (o8 : Option Value) (o9 : Option Value)  : zeRun 195 281 [o0, o1, o2, o3, o4, o5, o6, o7, o8, o9] [] (zk B im lm) = some (some (.int 0), (zk B im lm)) := ze_ret (ok := true) rfl 2 rfl rfl
theorem d_195_15 {B : zeB} {im : Nat → Nat → Int32} {lm : Nat → Nat → Int64} (l1 : Int32) (l2 : Int32) (l3 : Int32) (o4 : Option Value) (o5 : Option Value) (o6 : Option Value) (o7 : Option Value) (o8 : Option Value) (o9 : Option Value)  : zeRun 195 15 [some (.ref 16), some (.int l1), some (.int l2), some (.int l3), o4, o5, o6, o7, o8, o9] [] (zk B im lm) = zeBh 195 20 [some (.ref 16), some (.int l1), some (.int l2), some (.int l3), o4, o5, o6, o7, o8, o9] [] (zeRun 163 0 [some (.ref 16), some (.int l3)] [] (zk B im lm)) := ze_call (ok := true) rfl 3 rfl rfl rfl
theorem d_195_20 {B : zeB} {im : Nat → Nat → Int32} {lm : Nat → Nat → Int64} (l1 : Int32) (l2 : Int32) (l3 : Int32) (o4 : Option Value) (o5 : Option Value) (o6 : Option Value) (o7 : Option Value) (o8 : Option Value) (o9 : Option Value) (s0 : Int32)  : zeRun 195 20 [some (.ref 16), some (.int l1), some (.int l2), some (.int l3), o4, o5, o6, o7, o8, o9] [.int s0] (zk B im lm) = zeRun 195 28 [some (.ref 16), some (.int l1), some (.int l2), some (.int l3), some (.int s0), some (.int 1), some (.int 0), o7, o8, o9] [] (zk B im lm) := ze_go (ok := true) rfl 5 rfl rfl
theorem d_195_28 {B : zeB} {im : Nat → Nat → Int32} {lm : Nat → Nat → Int64} (l1 : Int32) (l2 : Int32) (l3 : Int32) (l4 : Int32) (l5 : Int32) (l6 : Int32) (o7 : Option Value) (o8 : Option Value) (o9 : Option Value)  : zeRun 195 28 [some (.ref 16), some (.int l1), some (.int l2), some (.int l3), some (.int l4), some (.int l5), some (.int l6), o7, o8, o9] [] (zk B im lm) = if l1 ≤ l6 then zeRun 195 67 [some (.ref 16), some (.int l1), some (.int l2), some (.int l3), some (.int l4), some (.int l5), some (.int l6), o7, o8, o9] [] (zk B im lm) else zeRun 195 34 [some (.ref 16), some (.int l1), some (.int l2), some (.int l3), some (.int l4), some (.int l5), some (.int l6), o7, o8, o9] [] (zk B im lm) := ze_if (ok := true) rfl 3 rfl rfl
theorem d_195_67 {B : zeB} {im : Nat → Nat → Int32} {lm : Nat → Nat → Int64} (l1 : Int32) (l2 : Int32) (l3 : Int32) (l4 : Int32) (l5 : Int32) (o6 : Option Value) (o7 : Option Value) (o8 : Option Value) (o9 : Option Value)  : zeRun 195 67 [some (.ref 16), some (.int l1), some (.int l2), some (.int l3), some (.int l4), some (.int l5), o6, o7, o8, o9] [] (zk B im lm) = if l5 = 1 then zeRun 195 74 [some (.ref 16), some (.int l1), some (.int l2), some (.int l3), some (.int l4), some (.int l5), o6, o7, o8, o9] [.int l2] (zk B im lm) else zeRun 195 81 [some (.ref 16), some (.int l1), some (.int l2), some (.int l3), some (.int l4), some (.int l5), o6, o7, o8, o9] [.int l2] (zk B im lm) := ze_if (ok := true) rfl 4 rfl rfl
theorem d_195_74 {B : zeB} {im : Nat → Nat → Int32} {lm : Nat → Nat → Int64} (l1 : Int32) (o2 : Option Value) (l3 : Int32) (l4 : Int32) (l5 : Int32) (o6 : Option Value) (o7 : Option Value) (o8 : Option Value) (o9 : Option Value) (s0 : Int32)  : zeRun 195 74 [some (.ref 16), some (.int l1), o2, some (.int l3), some (.int l4), some (.int l5), o6, o7, o8, o9] [.int s0] (zk B im lm) = zeRun 195 82 [some (.ref 16), some (.int l1), o2, some (.int l3), some (.int l4), some (.int l5), o6, o7, o8, o9] [.int (1 <<< (l4 &&& 31)), .int s0] (zk B im lm) := ze_go (ok := true) rfl 4 rfl rfl
theorem d_195_81 {B : zeB} {im : Nat → Nat → Int32} {lm : Nat → Nat → Int64} (l1 : Int32) (o2 : Option Value) (l3 : Int32) (l4 : Int32) (l5 : Int32) (o6 : Option Value) (o7 : Option Value) (o8 : Option Value) (o9 : Option Value) (s0 : Int32)  : zeRun 195 81 [some (.ref 16), some (.int l1), o2, some (.int l3), some (.int l4), some (.int l5), o6, o7, o8, o9] [.int s0] (zk B im lm) = zeRun 195 82 [some (.ref 16), some (.int l1), o2, some (.int l3), some (.int l4), some (.int l5), o6, o7, o8, o9] [.int 0, .int s0] (zk B im lm) := ze_go (ok := true) rfl 1 rfl rfl
theorem d_195_34 {B : zeB} {im : Nat → Nat → Int32} {lm : Nat → Nat → Int64} (l1 : Int32) (l2 : Int32) (l3 : Int32) (l4 : Int32) (l5 : Int32) (l6 : Int32) (o7 : Option Value) (o8 : Option Value) (o9 : Option Value)  : zeRun 195 34 [some (.ref 16), some (.int l1), some (.int l2), some (.int l3), some (.int l4), some (.int l5), some (.int l6), o7, o8, o9] [] (zk B im lm) = zeBh 195 43 [some (.ref 16), some (.int l1), some (.int l2), some (.int l3), some (.int l4), some (.int l5), some (.int l6), o7, o8, o9] [.int l5] (zeRun 156 0 [some (.ref 16), some (.int l6), some (.int 0)] [] (zk B im lm)) := ze_call (ok := true) rfl 5 rfl rfl rfl
theorem d_195_43 {B : zeB} {im : Nat → Nat → Int32} {lm : Nat → Nat → Int64} (l1 : Int32) (l2 : Int32) (l3 : Int32) (l4 : Int32) (o5 : Option Value) (l6 : Int32) (o7 : Option Value) (o8 : Option Value) (o9 : Option Value) (s0 : Int32) (s1 : Int32)  : zeRun 195 43 [some (.ref 16), some (.int l1), some (.int l2), some (.int l3), some (.int l4), o5, some (.int l6), o7, o8, o9] [.int s1, .int s0] (zk B im lm) = zeBh 195 50 [some (.ref 16), some (.int l1), some (.int l2), some (.int l3), some (.int l4), o5, some (.int l6), o7, o8, o9] [.int s1, .int s0] (zeRun 156 0 [some (.ref 16), some (.int l4), some (.int 0)] [] (zk B im lm)) := ze_call (ok := true) rfl 4 rfl rfl rfl
theorem d_195_50 {B : zeB} {im : Nat → Nat → Int32} {lm : Nat → Nat → Int64} (l1 : Int32) (l2 : Int32) (l3 : Int32) (l4 : Int32) (o5 : Option Value) (l6 : Int32) (o7 : Option Value) (o8 : Option Value) (o9 : Option Value) (s0 : Int32) (s1 : Int32) (s2 : Int32)  : zeRun 195 50 [some (.ref 16), some (.int l1), some (.int l2), some (.int l3), some (.int l4), o5, some (.int l6), o7, o8, o9] [.int s2, .int s1, .int s0] (zk B im lm) = if s1 ≤ s2 then zeRun 195 57 [some (.ref 16), some (.int l1), some (.int l2), some (.int l3), some (.int l4), o5, some (.int l6), o7, o8, o9] [.int s0] (zk B im lm) else zeRun 195 53 [some (.ref 16), some (.int l1), some (.int l2), some (.int l3), some (.int l4), o5, some (.int l6), o7, o8, o9] [.int s0] (zk B im lm) := ze_if (ok := true) rfl 1 rfl rfl
theorem d_195_57 {B : zeB} {im : Nat → Nat → Int32} {lm : Nat → Nat → Int64} (l1 : Int32) (l2 : Int32) (l3 : Int32) (l4 : Int32) (o5 : Option Value) (l6 : Int32) (o7 : Option Value) (o8 : Option Value) (o9 : Option Value) (s0 : Int32)  : zeRun 195 57 [some (.ref 16), some (.int l1), some (.int l2), some (.int l3), some (.int l4), o5, some (.int l6), o7, o8, o9] [.int s0] (zk B im lm) = zeRun 195 28 [some (.ref 16), some (.int l1), some (.int l2), some (.int l3), some (.int l4), some (.int (s0 + 0)), some (.int (l6 + 1)), o7, o8, o9] [] (zk B im lm) := ze_go (ok := true) rfl 5 rfl rfl
theorem d_195_53 {B : zeB} {im : Nat → Nat → Int32} {lm : Nat → Nat → Int64} (l1 : Int32) (l2 : Int32) (l3 : Int32) (l4 : Int32) (o5 : Option Value) (l6 : Int32) (o7 : Option Value) (o8 : Option Value) (o9 : Option Value) (s0 : Int32)  : zeRun 195 53 [some (.ref 16), some (.int l1), some (.int l2), some (.int l3), some (.int l4), o5, some (.int l6), o7, o8, o9] [.int s0] (zk B im lm) = zeRun 195 28 [some (.ref 16), some (.int l1), some (.int l2), some (.int l3), some (.int l4), some (.int (s0 + 1)), some (.int (l6 + 1)), o7, o8, o9] [] (zk B im lm) := ze_go (ok := true) rfl 6 rfl rfl
theorem d_195_82 {B : zeB} {im : Nat → Nat → Int32} {lm : Nat → Nat → Int64} (l1 : Int32) (o2 : Option Value) (l3 : Int32) (l4 : Int32) (l5 : Int32) (o6 : Option Value) (o7 : Option Value) (o8 : Option Value) (o9 : Option Value) (s0 : Int32) (s1 : Int32)  : zeRun 195 82 [some (.ref 16), some (.int l1), o2, some (.int l3), some (.int l4), some (.int l5), o6, o7, o8, o9] [.int s1, .int s0] (zk B im lm) = if l4 < 0 then zeRun 195 125 [some (.ref 16), some (.int l1), some (.int (s0 ||| s1)), some (.int l3), some (.int l4), some (.int l5), o6, o7, o8, o9] [] (zk B im lm) else zeRun 195 89 [some (.ref 16), some (.int l1), some (.int (s0 ||| s1)), some (.int l3), some (.int l4), some (.int l5), o6, o7, o8, o9] [] (zk B im lm) := ze_if (ok := true) rfl 4 rfl rfl
theorem d_195_125 {B : zeB} {im : Nat → Nat → Int32} {lm : Nat → Nat → Int64} (o0 : Option Value) (o1 : Option Value) (o2 : Option Value) (o3 : Option Value) (o4 : Option Value) (o5 : Option Value) (o6 : Option Value) (o7 : Option Value) (o8 : Option Value) (o9 : Option Value)  : zeRun 195 125 [o0, o1, o2, o3, o4, o5, o6, o7, o8, o9] [] (zk B im lm) = some (some (.int 0), (zk B im lm)) := ze_ret (ok := true) rfl 2 rfl rfl
theorem d_195_89 {B : zeB} {im : Nat → Nat → Int32} {lm : Nat → Nat → Int64} (l1 : Int32) (l2 : Int32) (l3 : Int32) (l4 : Int32) (l5 : Int32) (o6 : Option Value) (o7 : Option Value) (o8 : Option Value) (o9 : Option Value)  : zeRun 195 89 [some (.ref 16), some (.int l1), some (.int l2), some (.int l3), some (.int l4), some (.int l5), o6, o7, o8, o9] [] (zk B im lm) = zeBh 195 96 [some (.ref 16), some (.int l1), some (.int l2), some (.int l3), some (.int l4), some (.int l5), o6, o7, o8, o9] [] (zeRun 156 0 [some (.ref 16), some (.int l4), some (.int 4)] [] (zk B im lm)) := ze_call (ok := true) rfl 4 rfl rfl rfl
theorem d_195_96 {B : zeB} {im : Nat → Nat → Int32} {lm : Nat → Nat → Int64} (l1 : Int32) (l2 : Int32) (l3 : Int32) (l4 : Int32) (l5 : Int32) (o6 : Option Value) (o7 : Option Value) (o8 : Option Value) (o9 : Option Value) (s0 : Int32)  : zeRun 195 96 [some (.ref 16), some (.int l1), some (.int l2), some (.int l3), some (.int l4), some (.int l5), o6, o7, o8, o9] [.int s0] (zk B im lm) = if s0 = l3 then zeRun 195 100 [some (.ref 16), some (.int l1), some (.int l2), some (.int l3), some (.int l4), some (.int l5), o6, o7, o8, o9] [] (zk B im lm) else zeRun 195 125 [some (.ref 16), some (.int l1), some (.int l2), some (.int l3), some (.int l4), some (.int l5), o6, o7, o8, o9] [] (zk B im lm) := ze_if (ok := true) rfl 2 rfl rfl
theorem d_195_100 {B : zeB} {im : Nat → Nat → Int32} {lm : Nat → Nat → Int64} (l1 : Int32) (l2 : Int32) (l3 : Int32) (l4 : Int32) (l5 : Int32) (o6 : Option Value) (o7 : Option Value) (o8 : Option Value) (o9 : Option Value)  : zeRun 195 100 [some (.ref 16), some (.int l1), some (.int l2), some (.int l3), some (.int l4), some (.int l5), o6, o7, o8, o9] [] (zk B im lm) = zeBh 195 107 [some (.ref 16), some (.int l1), some (.int l2), some (.int l3), some (.int l4), some (.int l5), o6, o7, o8, o9] [] (zeRun 156 0 [some (.ref 16), some (.int l4), some (.int 3)] [] (zk B im lm)) := ze_call (ok := true) rfl 4 rfl rfl rfl
theorem d_195_107 {B : zeB} {im : Nat → Nat → Int32} {lm : Nat → Nat → Int64} (l1 : Int32) (l2 : Int32) (l3 : Int32) (l4 : Int32) (l5 : Int32) (o6 : Option Value) (o7 : Option Value) (o8 : Option Value) (o9 : Option Value) (s0 : Int32)  : zeRun 195 107 [some (.ref 16), some (.int l1), some (.int l2), some (.int l3), some (.int l4), some (.int l5), o6, o7, o8, o9] [.int s0] (zk B im lm) = if s0 = l5 then zeRun 195 112 [some (.ref 16), some (.int l1), some (.int l2), some (.int l3), some (.int l4), some (.int l5), o6, o7, o8, o9] [] (zk B im lm) else zeRun 195 125 [some (.ref 16), some (.int l1), some (.int l2), some (.int l3), some (.int l4), some (.int l5), o6, o7, o8, o9] [] (zk B im lm) := ze_if (ok := true) rfl 2 rfl rfl
theorem d_195_112 {B : zeB} {im : Nat → Nat → Int32} {lm : Nat → Nat → Int64} (l1 : Int32) (l2 : Int32) (l3 : Int32) (l4 : Int32) (o5 : Option Value) (o6 : Option Value) (o7 : Option Value) (o8 : Option Value) (o9 : Option Value)  : zeRun 195 112 [some (.ref 16), some (.int l1), some (.int l2), some (.int l3), some (.int l4), o5, o6, o7, o8, o9] [] (zk B im lm) = zeBh 195 120 [some (.ref 16), some (.int l1), some (.int l2), some (.int l3), some (.int l4), o5, o6, o7, o8, o9] [] (zeRun 156 0 [some (.ref 16), some (.int l4), some (.int 8)] [] (zk B im lm)) := ze_call (ok := true) rfl 4 rfl rfl rfl
theorem d_195_120 {B : zeB} {im : Nat → Nat → Int32} {lm : Nat → Nat → Int64} (l1 : Int32) (l2 : Int32) (l3 : Int32) (l4 : Int32) (o5 : Option Value) (o6 : Option Value) (o7 : Option Value) (o8 : Option Value) (o9 : Option Value) (s0 : Int32)  : zeRun 195 120 [some (.ref 16), some (.int l1), some (.int l2), some (.int l3), some (.int l4), o5, o6, o7, o8, o9] [.int s0] (zk B im lm) = if s0 = (-10000002) then zeRun 195 127 [some (.ref 16), some (.int l1), some (.int l2), some (.int l3), some (.int l4), o5, o6, o7, o8, o9] [] (zk B im lm) else zeRun 195 125 [some (.ref 16), some (.int l1), some (.int l2), some (.int l3), some (.int l4), o5, o6, o7, o8, o9] [] (zk B im lm) := ze_if (ok := true) rfl 2 rfl rfl
theorem d_195_127 {B : zeB} {im : Nat → Nat → Int32} {lm : Nat → Nat → Int64} (l1 : Int32) (l2 : Int32) (l3 : Int32) (l4 : Int32) (o5 : Option Value) (o6 : Option Value) (o7 : Option Value) (o8 : Option Value) (o9 : Option Value)  : zeRun 195 127 [some (.ref 16), some (.int l1), some (.int l2), some (.int l3), some (.int l4), o5, o6, o7, o8, o9] [] (zk B im lm) = if l3 ≤ 0 then zeRun 195 230 [some (.ref 16), some (.int l1), some (.int l2), some (.int l3), some (.int l4), o5, o6, o7, o8, o9] [] (zk B im lm) else zeRun 195 131 [some (.ref 16), some (.int l1), some (.int l2), some (.int l3), some (.int l4), o5, o6, o7, o8, o9] [] (zk B im lm) := ze_if (ok := true) rfl 2 rfl rfl
theorem d_195_230 {B : zeB} {im : Nat → Nat → Int32} {lm : Nat → Nat → Int64} (l1 : Int32) (l2 : Int32) (l3 : Int32) (o4 : Option Value) (o5 : Option Value) (o6 : Option Value) (o7 : Option Value) (o8 : Option Value) (o9 : Option Value)  : zeRun 195 230 [some (.ref 16), some (.int l1), some (.int l2), some (.int l3), o4, o5, o6, o7, o8, o9] [] (zk B im lm) = zeRun 195 10 [some (.ref 16), some (.int l1), some (.int l2), some (.int (l3 + 1)), o4, o5, o6, o7, o8, o9] [] (zk B im lm) := ze_go (ok := true) rfl 2 rfl rfl
theorem d_195_131 {B : zeB} {im : Nat → Nat → Int32} {lm : Nat → Nat → Int64} (l1 : Int32) (l2 : Int32) (l3 : Int32) (l4 : Int32) (o5 : Option Value) (o6 : Option Value) (o7 : Option Value) (o8 : Option Value) (o9 : Option Value)  : zeRun 195 131 [some (.ref 16), some (.int l1), some (.int l2), some (.int l3), some (.int l4), o5, o6, o7, o8, o9] [] (zk B im lm) = zeBh 195 138 [some (.ref 16), some (.int l1), some (.int l2), some (.int l3), some (.int l4), o5, o6, o7, o8, o9] [] (zeRun 163 0 [some (.ref 16), some (.int (l3 - 1))] [] (zk B im lm)) := ze_call (ok := true) rfl 5 rfl rfl rfl
theorem d_195_138 {B : zeB} {im : Nat → Nat → Int32} {lm : Nat → Nat → Int64} (l1 : Int32) (l2 : Int32) (l3 : Int32) (l4 : Int32) (o5 : Option Value) (o6 : Option Value) (o7 : Option Value) (o8 : Option Value) (o9 : Option Value) (s0 : Int32)  : zeRun 195 138 [some (.ref 16), some (.int l1), some (.int l2), some (.int l3), some (.int l4), o5, o6, o7, o8, o9] [.int s0] (zk B im lm) = zeBh 195 147 [some (.ref 16), some (.int l1), some (.int l2), some (.int l3), some (.int l4), o5, some (.int s0), o7, o8, o9] [] (zeRun 156 0 [some (.ref 16), some (.int s0), some (.int 0)] [] (zk B im lm)) := ze_call (ok := true) rfl 5 rfl rfl rfl
theorem d_195_147 {B : zeB} {im : Nat → Nat → Int32} {lm : Nat → Nat → Int64} (l1 : Int32) (l2 : Int32) (l3 : Int32) (l4 : Int32) (o5 : Option Value) (l6 : Int32) (o7 : Option Value) (o8 : Option Value) (o9 : Option Value) (s0 : Int32)  : zeRun 195 147 [some (.ref 16), some (.int l1), some (.int l2), some (.int l3), some (.int l4), o5, some (.int l6), o7, o8, o9] [.int s0] (zk B im lm) = zeBh 195 154 [some (.ref 16), some (.int l1), some (.int l2), some (.int l3), some (.int l4), o5, some (.int l6), o7, o8, o9] [.int s0] (zeRun 156 0 [some (.ref 16), some (.int l4), some (.int 0)] [] (zk B im lm)) := ze_call (ok := true) rfl 4 rfl rfl rfl
theorem d_195_154 {B : zeB} {im : Nat → Nat → Int32} {lm : Nat → Nat → Int64} (l1 : Int32) (l2 : Int32) (l3 : Int32) (l4 : Int32) (o5 : Option Value) (l6 : Int32) (o7 : Option Value) (o8 : Option Value) (o9 : Option Value) (s0 : Int32) (s1 : Int32)  : zeRun 195 154 [some (.ref 16), some (.int l1), some (.int l2), some (.int l3), some (.int l4), o5, some (.int l6), o7, o8, o9] [.int s1, .int s0] (zk B im lm) = zeBh 195 164 [some (.ref 16), some (.int l1), some (.int l2), some (.int l3), some (.int l4), o5, some (.int l6), some (.int (s0 - s1)), o8, o9] [] (zeRun 156 0 [some (.ref 16), some (.int l6), some (.int 1)] [] (zk B im lm)) := ze_call (ok := true) rfl 6 rfl rfl rfl
theorem d_195_164 {B : zeB} {im : Nat → Nat → Int32} {lm : Nat → Nat → Int64} (l1 : Int32) (l2 : Int32) (l3 : Int32) (l4 : Int32) (o5 : Option Value) (l6 : Int32) (l7 : Int32) (o8 : Option Value) (o9 : Option Value) (s0 : Int32)  : zeRun 195 164 [some (.ref 16), some (.int l1), some (.int l2), some (.int l3), some (.int l4), o5, some (.int l6), some (.int l7), o8, o9] [.int s0] (zk B im lm) = zeBh 195 171 [some (.ref 16), some (.int l1), some (.int l2), some (.int l3), some (.int l4), o5, some (.int l6), some (.int l7), o8, o9] [.int s0] (zeRun 156 0 [some (.ref 16), some (.int l4), some (.int 1)] [] (zk B im lm)) := ze_call (ok := true) rfl 4 rfl rfl rfl
theorem d_195_171 {B : zeB} {im : Nat → Nat → Int32} {lm : Nat → Nat → Int64} (l1 : Int32) (l2 : Int32) (l3 : Int32) (l4 : Int32) (o5 : Option Value) (l6 : Int32) (l7 : Int32) (o8 : Option Value) (o9 : Option Value) (s0 : Int32) (s1 : Int32)  : zeRun 195 171 [some (.ref 16), some (.int l1), some (.int l2), some (.int l3), some (.int l4), o5, some (.int l6), some (.int l7), o8, o9] [.int s1, .int s0] (zk B im lm) = zeBh 195 181 [some (.ref 16), some (.int l1), some (.int l2), some (.int l3), some (.int l4), o5, some (.int l6), some (.int l7), some (.int (s0 - s1)), o9] [] (zeRun 156 0 [some (.ref 16), some (.int l4), some (.int 2)] [] (zk B im lm)) := ze_call (ok := true) rfl 6 rfl rfl rfl
theorem d_195_181 {B : zeB} {im : Nat → Nat → Int32} {lm : Nat → Nat → Int64} (l1 : Int32) (l2 : Int32) (l3 : Int32) (l4 : Int32) (o5 : Option Value) (l6 : Int32) (l7 : Int32) (l8 : Int32) (o9 : Option Value) (s0 : Int32)  : zeRun 195 181 [some (.ref 16), some (.int l1), some (.int l2), some (.int l3), some (.int l4), o5, some (.int l6), some (.int l7), some (.int l8), o9] [.int s0] (zk B im lm) = zeBh 195 188 [some (.ref 16), some (.int l1), some (.int l2), some (.int l3), some (.int l4), o5, some (.int l6), some (.int l7), some (.int l8), o9] [.int s0] (zeRun 156 0 [some (.ref 16), some (.int l6), some (.int 2)] [] (zk B im lm)) := ze_call (ok := true) rfl 4 rfl rfl rfl
theorem d_195_188 {B : zeB} {im : Nat → Nat → Int32} {lm : Nat → Nat → Int64} (l1 : Int32) (l2 : Int32) (l3 : Int32) (l4 : Int32) (o5 : Option Value) (l6 : Int32) (l7 : Int32) (l8 : Int32) (o9 : Option Value) (s0 : Int32) (s1 : Int32)  : zeRun 195 188 [some (.ref 16), some (.int l1), some (.int l2), some (.int l3), some (.int l4), o5, some (.int l6), some (.int l7), some (.int l8), o9] [.int s1, .int s0] (zk B im lm) = if l7 < 0 then zeRun 195 228 [some (.ref 16), some (.int l1), some (.int l2), some (.int l3), some (.int l4), o5, some (.int l6), some (.int l7), some (.int l8), some (.int (s0 - s1))] [] (zk B im lm) else zeRun 195 196 [some (.ref 16), some (.int l1), some (.int l2), some (.int l3), some (.int l4), o5, some (.int l6), some (.int l7), some (.int l8), some (.int (s0 - s1))] [] (zk B im lm) := ze_if (ok := true) rfl 4 rfl rfl
theorem d_195_228 {B : zeB} {im : Nat → Nat → Int32} {lm : Nat → Nat → Int64} (o0 : Option Value) (o1 : Option Value) (o2 : Option Value) (o3 : Option Value) (o4 : Option Value) (o5 : Option Value) (o6 : Option Value) (o7 : Option Value) (o8 : Option Value) (o9 : Option Value)  : zeRun 195 228 [o0, o1, o2, o3, o4, o5, o6, o7, o8, o9] [] (zk B im lm) = some (some (.int 0), (zk B im lm)) := ze_ret (ok := true) rfl 2 rfl rfl
theorem d_195_196 {B : zeB} {im : Nat → Nat → Int32} {lm : Nat → Nat → Int64} (l1 : Int32) (l2 : Int32) (l3 : Int32) (l4 : Int32) (o5 : Option Value) (l6 : Int32) (l7 : Int32) (l8 : Int32) (l9 : Int32)  : zeRun 195 196 [some (.ref 16), some (.int l1), some (.int l2), some (.int l3), some (.int l4), o5, some (.int l6), some (.int l7), some (.int l8), some (.int l9)] [] (zk B im lm) = if l7 = 0 then zeRun 195 201 [some (.ref 16), some (.int l1), some (.int l2), some (.int l3), some (.int l4), o5, some (.int l6), some (.int l7), some (.int l8), some (.int l9)] [] (zk B im lm) else zeRun 195 230 [some (.ref 16), some (.int l1), some (.int l2), some (.int l3), some (.int l4), o5, some (.int l6), some (.int l7), some (.int l8), some (.int l9)] [] (zk B im lm) := ze_if (ok := true) rfl 2 rfl rfl
theorem d_195_201 {B : zeB} {im : Nat → Nat → Int32} {lm : Nat → Nat → Int64} (l1 : Int32) (l2 : Int32) (l3 : Int32) (l4 : Int32) (o5 : Option Value) (l6 : Int32) (o7 : Option Value) (l8 : Int32) (l9 : Int32)  : zeRun 195 201 [some (.ref 16), some (.int l1), some (.int l2), some (.int l3), some (.int l4), o5, some (.int l6), o7, some (.int l8), some (.int l9)] [] (zk B im lm) = if l8 < 0 then zeRun 195 228 [some (.ref 16), some (.int l1), some (.int l2), some (.int l3), some (.int l4), o5, some (.int l6), o7, some (.int l8), some (.int l9)] [] (zk B im lm) else zeRun 195 206 [some (.ref 16), some (.int l1), some (.int l2), some (.int l3), some (.int l4), o5, some (.int l6), o7, some (.int l8), some (.int l9)] [] (zk B im lm) := ze_if (ok := true) rfl 2 rfl rfl
theorem d_195_206 {B : zeB} {im : Nat → Nat → Int32} {lm : Nat → Nat → Int64} (l1 : Int32) (l2 : Int32) (l3 : Int32) (l4 : Int32) (o5 : Option Value) (l6 : Int32) (o7 : Option Value) (l8 : Int32) (l9 : Int32)  : zeRun 195 206 [some (.ref 16), some (.int l1), some (.int l2), some (.int l3), some (.int l4), o5, some (.int l6), o7, some (.int l8), some (.int l9)] [] (zk B im lm) = if l8 = 0 then zeRun 195 211 [some (.ref 16), some (.int l1), some (.int l2), some (.int l3), some (.int l4), o5, some (.int l6), o7, some (.int l8), some (.int l9)] [] (zk B im lm) else zeRun 195 230 [some (.ref 16), some (.int l1), some (.int l2), some (.int l3), some (.int l4), o5, some (.int l6), o7, some (.int l8), some (.int l9)] [] (zk B im lm) := ze_if (ok := true) rfl 2 rfl rfl
theorem d_195_211 {B : zeB} {im : Nat → Nat → Int32} {lm : Nat → Nat → Int64} (l1 : Int32) (l2 : Int32) (l3 : Int32) (l4 : Int32) (o5 : Option Value) (l6 : Int32) (o7 : Option Value) (o8 : Option Value) (l9 : Int32)  : zeRun 195 211 [some (.ref 16), some (.int l1), some (.int l2), some (.int l3), some (.int l4), o5, some (.int l6), o7, o8, some (.int l9)] [] (zk B im lm) = if l9 < 0 then zeRun 195 228 [some (.ref 16), some (.int l1), some (.int l2), some (.int l3), some (.int l4), o5, some (.int l6), o7, o8, some (.int l9)] [] (zk B im lm) else zeRun 195 216 [some (.ref 16), some (.int l1), some (.int l2), some (.int l3), some (.int l4), o5, some (.int l6), o7, o8, some (.int l9)] [] (zk B im lm) := ze_if (ok := true) rfl 2 rfl rfl
theorem d_195_216 {B : zeB} {im : Nat → Nat → Int32} {lm : Nat → Nat → Int64} (l1 : Int32) (l2 : Int32) (l3 : Int32) (l4 : Int32) (o5 : Option Value) (l6 : Int32) (o7 : Option Value) (o8 : Option Value) (l9 : Int32)  : zeRun 195 216 [some (.ref 16), some (.int l1), some (.int l2), some (.int l3), some (.int l4), o5, some (.int l6), o7, o8, some (.int l9)] [] (zk B im lm) = if l9 = 0 then zeRun 195 221 [some (.ref 16), some (.int l1), some (.int l2), some (.int l3), some (.int l4), o5, some (.int l6), o7, o8, some (.int l9)] [] (zk B im lm) else zeRun 195 230 [some (.ref 16), some (.int l1), some (.int l2), some (.int l3), some (.int l4), o5, some (.int l6), o7, o8, some (.int l9)] [] (zk B im lm) := ze_if (ok := true) rfl 2 rfl rfl
theorem d_195_221 {B : zeB} {im : Nat → Nat → Int32} {lm : Nat → Nat → Int64} (l1 : Int32) (l2 : Int32) (l3 : Int32) (l4 : Int32) (o5 : Option Value) (l6 : Int32) (o7 : Option Value) (o8 : Option Value) (o9 : Option Value)  : zeRun 195 221 [some (.ref 16), some (.int l1), some (.int l2), some (.int l3), some (.int l4), o5, some (.int l6), o7, o8, o9] [] (zk B im lm) = if l6 ≤ l4 then zeRun 195 230 [some (.ref 16), some (.int l1), some (.int l2), some (.int l3), some (.int l4), o5, some (.int l6), o7, o8, o9] [] (zk B im lm) else zeRun 195 228 [some (.ref 16), some (.int l1), some (.int l2), some (.int l3), some (.int l4), o5, some (.int l6), o7, o8, o9] [] (zk B im lm) := ze_if (ok := true) rfl 3 rfl rfl
def J_195_82 (K10 : Int32 → Int32 → Int32 → zI → zJ → zR) (l1 : Int32) (l3 : Int32) (l4 : Int32) (l5 : Int32) (s0 : Int32) (s1 : Int32) (im : zI) (lm : zJ) : zR :=
    if l4 < 0 then
      some (0, im, lm)
    else
      zBd (m_156 l4 4 im lm) fun v1 im1 lm1 =>
      if v1 = l3 then
        zBd (m_156 l4 3 im1 lm1) fun v2 im2 lm2 =>
        if v2 = l5 then
          zBd (m_156 l4 8 im2 lm2) fun v3 im3 lm3 =>
          if v3 = (-10000002) then
            if l3 ≤ 0 then
              K10 l1 (s0 ||| s1) (l3 + 1) im3 lm3
            else
              zBd (m_163 (l3 - 1) im3 lm3) fun v4 im4 lm4 =>
              zBd (m_156 v4 0 im4 lm4) fun v5 im5 lm5 =>
              zBd (m_156 l4 0 im5 lm5) fun v6 im6 lm6 =>
              zBd (m_156 v4 1 im6 lm6) fun v7 im7 lm7 =>
              zBd (m_156 l4 1 im7 lm7) fun v8 im8 lm8 =>
              zBd (m_156 l4 2 im8 lm8) fun v9 im9 lm9 =>
              zBd (m_156 v4 2 im9 lm9) fun v10 im10 lm10 =>
              if (v5 - v6) < 0 then
                some (0, im10, lm10)
              else
                if (v5 - v6) = 0 then
                  if (v7 - v8) < 0 then
                    some (0, im10, lm10)
                  else
                    if (v7 - v8) = 0 then
                      if (v9 - v10) < 0 then
                        some (0, im10, lm10)
                      else
                        if (v9 - v10) = 0 then
                          if v4 ≤ l4 then
                            K10 l1 (s0 ||| s1) (l3 + 1) im10 lm10
                          else
                            some (0, im10, lm10)
                        else
                          K10 l1 (s0 ||| s1) (l3 + 1) im10 lm10
                    else
                      K10 l1 (s0 ||| s1) (l3 + 1) im10 lm10
                else
                  K10 l1 (s0 ||| s1) (l3 + 1) im10 lm10
          else
            some (0, im3, lm3)
        else
          some (0, im2, lm2)
      else
        some (0, im1, lm1)
theorem J_195_82_ok {B : zeB} (K10 : Int32 → Int32 → Int32 → zI → zJ → zR) (hK10 : ∀ (l1 : Int32) (l2 : Int32) (l3 : Int32) (o4 : Option Value) (o5 : Option Value) (o6 : Option Value) (o7 : Option Value) (o8 : Option Value) (o9 : Option Value) (im : zI) (lm : zJ), zL B 1 (K10 l1 l2 l3 im lm) (zeRun 195 10 [some (.ref 16), some (.int l1), some (.int l2), some (.int l3), o4, o5, o6, o7, o8, o9] [] (zk B im lm))) (l1 : Int32) (l3 : Int32) (l4 : Int32) (l5 : Int32) (s0 : Int32) (s1 : Int32) (o2 : Option Value) (o6 : Option Value) (o7 : Option Value) (o8 : Option Value) (o9 : Option Value) (im : zI) (lm : zJ) : zL B 1 (J_195_82 K10 l1 l3 l4 l5 s0 s1 im lm) (zeRun 195 82 [some (.ref 16), some (.int l1), o2, some (.int l3), some (.int l4), some (.int l5), o6, o7, o8, o9] [.int s1, .int s0] (zk B im lm)) := by
  unfold J_195_82
  refine zL_if (d_195_82 _ _ _ _ _ _ _ _ _ _ _) (fun h => ?_) (fun h => ?_)
  · skip
    exact zL_ret (d_195_125 _ _ _ _ _ _ _ _ _ _)
  · skip
    refine zL_bd (d_195_89 _ _ _ _ _ _ _ _ _) (m_156_ok _ _ _ _) fun v1 im1 lm1 => ?_
    refine zL_if (d_195_96 _ _ _ _ _ _ _ _ _ _) (fun h => ?_) (fun h => ?_)
    · skip
      refine zL_bd (d_195_100 _ _ _ _ _ _ _ _ _) (m_156_ok _ _ _ _) fun v2 im2 lm2 => ?_
      refine zL_if (d_195_107 _ _ _ _ _ _ _ _ _ _) (fun h => ?_) (fun h => ?_)
      · skip
        refine zL_bd (d_195_112 _ _ _ _ _ _ _ _ _) (m_156_ok _ _ _ _) fun v3 im3 lm3 => ?_
        refine zL_if (d_195_120 _ _ _ _ _ _ _ _ _ _) (fun h => ?_) (fun h => ?_)
        · skip
          refine zL_if (d_195_127 _ _ _ _ _ _ _ _ _) (fun h => ?_) (fun h => ?_)
          · skip
            refine zL_eq (d_195_230 _ _ _ _ _ _ _ _ _) ?_
            exact hK10 _ _ _ _ _ _ _ _ _ _ _
          · skip
            refine zL_bd (d_195_131 _ _ _ _ _ _ _ _ _) (m_163_ok _ _ _) fun v4 im4 lm4 => ?_
            refine zL_bd (d_195_138 _ _ _ _ _ _ _ _ _ _) (m_156_ok _ _ _ _) fun v5 im5 lm5 => ?_
            refine zL_bd (d_195_147 _ _ _ _ _ _ _ _ _ _) (m_156_ok _ _ _ _) fun v6 im6 lm6 => ?_
            refine zL_bd (d_195_154 _ _ _ _ _ _ _ _ _ _ _) (m_156_ok _ _ _ _) fun v7 im7 lm7 => ?_
            refine zL_bd (d_195_164 _ _ _ _ _ _ _ _ _ _) (m_156_ok _ _ _ _) fun v8 im8 lm8 => ?_
            refine zL_bd (d_195_171 _ _ _ _ _ _ _ _ _ _ _) (m_156_ok _ _ _ _) fun v9 im9 lm9 => ?_
            refine zL_bd (d_195_181 _ _ _ _ _ _ _ _ _ _) (m_156_ok _ _ _ _) fun v10 im10 lm10 => ?_
            refine zL_if (d_195_188 _ _ _ _ _ _ _ _ _ _ _) (fun h => ?_) (fun h => ?_)
            · skip
              exact zL_ret (d_195_228 _ _ _ _ _ _ _ _ _ _)
            · skip
              refine zL_if (d_195_196 _ _ _ _ _ _ _ _ _) (fun h => ?_) (fun h => ?_)
              · skip
                refine zL_if (d_195_201 _ _ _ _ _ _ _ _ _) (fun h => ?_) (fun h => ?_)
                · skip
                  exact zL_ret (d_195_228 _ _ _ _ _ _ _ _ _ _)
                · skip
                  refine zL_if (d_195_206 _ _ _ _ _ _ _ _ _) (fun h => ?_) (fun h => ?_)
                  · skip
                    refine zL_if (d_195_211 _ _ _ _ _ _ _ _ _) (fun h => ?_) (fun h => ?_)
                    · skip
                      exact zL_ret (d_195_228 _ _ _ _ _ _ _ _ _ _)
                    · skip
                      refine zL_if (d_195_216 _ _ _ _ _ _ _ _ _) (fun h => ?_) (fun h => ?_)
                      · skip
                        refine zL_if (d_195_221 _ _ _ _ _ _ _ _ _) (fun h => ?_) (fun h => ?_)
                        · skip
                          refine zL_eq (d_195_230 _ _ _ _ _ _ _ _ _) ?_
                          exact hK10 _ _ _ _ _ _ _ _ _ _ _
                        · skip
                          exact zL_ret (d_195_228 _ _ _ _ _ _ _ _ _ _)
                      · skip
                        refine zL_eq (d_195_230 _ _ _ _ _ _ _ _ _) ?_
                        exact hK10 _ _ _ _ _ _ _ _ _ _ _
                  · skip
                    refine zL_eq (d_195_230 _ _ _ _ _ _ _ _ _) ?_
                    exact hK10 _ _ _ _ _ _ _ _ _ _ _
              · skip
                refine zL_eq (d_195_230 _ _ _ _ _ _ _ _ _) ?_
                exact hK10 _ _ _ _ _ _ _ _ _ _ _
        · skip
          exact zL_ret (d_195_125 _ _ _ _ _ _ _ _ _ _)
      · skip
        exact zL_ret (d_195_125 _ _ _ _ _ _ _ _ _ _)
    · skip
      exact zL_ret (d_195_125 _ _ _ _ _ _ _ _ _ _)
def F_195_28 (K10 : Int32 → Int32 → Int32 → zI → zJ → zR) : Nat → Int32 → Int32 → Int32 → Int32 → Int32 → Int32 → zI → zJ → zR
  | 0, _, _, _, _, _, _, _, _ => none
  | n + 1, l1, l2, l3, l4, l5, l6, im, lm =>
    if l1 ≤ l6 then
      J_195_82 K10  l1 l3 l4 l5 l2 (if l5 = 1 then (1 <<< (l4 &&& 31)) else 0) im lm
    else
      zBd (m_156 l6 0 im lm) fun v1 im1 lm1 =>
      zBd (m_156 l4 0 im1 lm1) fun v2 im2 lm2 =>
      F_195_28 K10 n l1 l2 l3 l4 (if v1 ≤ v2 then (l5 + 0) else (l5 + 1)) (l6 + 1) im2 lm2
theorem F_195_28_ok {B : zeB} (K10 : Int32 → Int32 → Int32 → zI → zJ → zR) (hK10 : ∀ (l1 : Int32) (l2 : Int32) (l3 : Int32) (o4 : Option Value) (o5 : Option Value) (o6 : Option Value) (o7 : Option Value) (o8 : Option Value) (o9 : Option Value) (im : zI) (lm : zJ), zL B 1 (K10 l1 l2 l3 im lm) (zeRun 195 10 [some (.ref 16), some (.int l1), some (.int l2), some (.int l3), o4, o5, o6, o7, o8, o9] [] (zk B im lm))) : ∀ (n : Nat) (l1 : Int32) (l2 : Int32) (l3 : Int32) (l4 : Int32) (l5 : Int32) (l6 : Int32) (o7 : Option Value) (o8 : Option Value) (o9 : Option Value) (im : zI) (lm : zJ), zL B 1 (F_195_28 K10 n l1 l2 l3 l4 l5 l6 im lm) (zeRun 195 28 [some (.ref 16), some (.int l1), some (.int l2), some (.int l3), some (.int l4), some (.int l5), some (.int l6), o7, o8, o9] [] (zk B im lm)) := by
  intro n
  induction n with
  | zero => intros; exact zL_none
  | succ n ih =>
    intro l1 l2 l3 l4 l5 l6 o7 o8 o9 im lm
    unfold F_195_28
    refine zL_if (d_195_28 _ _ _ _ _ _ _ _ _) (fun h => ?_) (fun h => ?_)
    · skip
      refine zL_ifm (d_195_67 _ _ _ _ _ _ _ _ _) (fun h => ?_) (fun h => ?_)
      · repeat rw [if_pos h]
        refine zL_eq (d_195_74 _ _ _ _ _ _ _ _ _ _) ?_
        exact J_195_82_ok _ hK10  _ _ _ _ _ _ _ _ _ _ _ _ _
      · repeat rw [if_neg h]
        refine zL_eq (d_195_81 _ _ _ _ _ _ _ _ _ _) ?_
        exact J_195_82_ok _ hK10  _ _ _ _ _ _ _ _ _ _ _ _ _
    · skip
      refine zL_bd (d_195_34 _ _ _ _ _ _ _ _ _) (m_156_ok _ _ _ _) fun v1 im1 lm1 => ?_
      refine zL_bd (d_195_43 _ _ _ _ _ _ _ _ _ _ _) (m_156_ok _ _ _ _) fun v2 im2 lm2 => ?_
      refine zL_ifm (d_195_50 _ _ _ _ _ _ _ _ _ _ _ _) (fun h => ?_) (fun h => ?_)
      · repeat rw [if_pos h]
        refine zL_eq (d_195_57 _ _ _ _ _ _ _ _ _ _) ?_
        exact ih _ _ _ _ _ _ _ _ _ _ _
      · repeat rw [if_neg h]
        refine zL_eq (d_195_53 _ _ _ _ _ _ _ _ _ _) ?_
        exact ih _ _ _ _ _ _ _ _ _ _ _
def F_195_10  : Nat → Int32 → Int32 → Int32 → zI → zJ → zR
  | 0, _, _, _, _, _ => none
  | n + 1, l1, l2, l3, im, lm =>
    if l1 ≤ l3 then
      zBd (m_177 6 im lm) fun v1 im1 lm1 =>
      if v1 = l2 then
        zBd (m_163 l1 im1 lm1) fun v2 im2 lm2 =>
        if v2 = (-10000005) then
          zBd (m_163 (-1) im2 lm2) fun v3 im3 lm3 =>
          if v3 = (-10000002) then
            zBd (m_156 l1 0 im3 lm3) fun v4 im4 lm4 =>
            some (if v4 = (-10000001) then 1 else 0, im4, lm4)
          else
            some (0, im3, lm3)
        else
          some (0, im2, lm2)
      else
        some (0, im1, lm1)
    else
      zBd (m_163 l3 im lm) fun v5 im5 lm5 =>
      F_195_28 (F_195_10  n) 2000 l1 l2 l3 v5 1 0 im5 lm5
theorem F_195_10_ok {B : zeB} : ∀ (n : Nat) (l1 : Int32) (l2 : Int32) (l3 : Int32) (o4 : Option Value) (o5 : Option Value) (o6 : Option Value) (o7 : Option Value) (o8 : Option Value) (o9 : Option Value) (im : zI) (lm : zJ), zL B 1 (F_195_10  n l1 l2 l3 im lm) (zeRun 195 10 [some (.ref 16), some (.int l1), some (.int l2), some (.int l3), o4, o5, o6, o7, o8, o9] [] (zk B im lm)) := by
  intro n
  induction n with
  | zero => intros; exact zL_none
  | succ n ih =>
    intro l1 l2 l3 o4 o5 o6 o7 o8 o9 im lm
    unfold F_195_10
    refine zL_if (d_195_10 _ _ _ _ _ _ _ _ _) (fun h => ?_) (fun h => ?_)
    · skip
      refine zL_bd (d_195_236 _ _ _ _ _ _ _ _ _) (m_177_ok _ _ _) fun v1 im1 lm1 => ?_
      refine zL_if (d_195_242 _ _ _ _ _ _ _ _ _ _) (fun h => ?_) (fun h => ?_)
      · skip
        refine zL_bd (d_195_246 _ _ _ _ _ _ _ _ _) (m_163_ok _ _ _) fun v2 im2 lm2 => ?_
        refine zL_if (d_195_251 _ _ _ _ _ _ _ _ _ _) (fun h => ?_) (fun h => ?_)
        · skip
          refine zL_bd (d_195_256 _ _ _ _ _ _ _ _ _) (m_163_ok _ _ _) fun v3 im3 lm3 => ?_
          refine zL_if (d_195_261 _ _ _ _ _ _ _ _ _ _) (fun h => ?_) (fun h => ?_)
          · skip
            refine zL_bd (d_195_266 _ _ _ _ _ _ _ _ _) (m_156_ok _ _ _ _) fun v4 im4 lm4 => ?_
            refine zL_ifm (d_195_272 _ _ _ _ _ _ _ _ _ _ _) (fun h => ?_) (fun h => ?_)
            · repeat rw [if_pos h]
              exact zL_ret (d_195_277 _ _ _ _ _ _ _ _ _ _)
            · repeat rw [if_neg h]
              exact zL_ret (d_195_281 _ _ _ _ _ _ _ _ _ _)
          · skip
            exact zL_ret (d_195_281 _ _ _ _ _ _ _ _ _ _)
        · skip
          exact zL_ret (d_195_281 _ _ _ _ _ _ _ _ _ _)
      · skip
        exact zL_ret (d_195_281 _ _ _ _ _ _ _ _ _ _)
    · skip
      refine zL_bd (d_195_15 _ _ _ _ _ _ _ _ _) (m_163_ok _ _ _) fun v5 im5 lm5 => ?_
      refine zL_eq (d_195_20 _ _ _ _ _ _ _ _ _ _) ?_
      exact F_195_28_ok _ ih _ _ _ _ _ _ _ _ _ _ _ _
def m_195  (im : zI) (lm : zJ) : zR :=
    zBd (m_177 1 im lm) fun v1 im1 lm1 =>
    F_195_10  2000 v1 0 0 im1 lm1
theorem m_195_ok {B : zeB}  (im : zI) (lm : zJ) : zL B 1 (m_195  im lm) (zeRun 195 0 [some (.ref 16), none, none, none, none, none, none, none, none, none] [] (zk B im lm)) := by
  unfold m_195
  refine zL_bd (d_195_0 _ _ _ _ _ _ _ _ _) (m_177_ok _ _ _) fun v1 im1 lm1 => ?_
  refine zL_eq (d_195_5 _ _ _ _ _ _ _ _ _ _) ?_
  exact F_195_10_ok  _ _ _ _ _ _ _ _ _ _ _ _
