/-! pure: L_moves -/
/-! L_moves -/
theorem d_191_0 {B : zeB} {im : Nat → Nat → Int32} {lm : Nat → Nat → Int64} (l1 : Int32) (l2 : Int32) (o3 : Option Value) (o4 : Option Value) (o5 : Option Value) (o6 : Option Value) (o7 : Option Value) (o8 : Option Value) (o9 : Option Value) (o10 : Option Value) (o11 : Option Value) (o12 : Option Value)  : zeRun 191 0 [some (.ref 16), some (.int l1), some (.int l2), o3, o4, o5, o6, o7, o8, o9, o10, o11, o12] [] (zk B im lm) = zeBh 191 5 [some (.ref 16), some (.int l1), some (.int l2), o3, o4, o5, o6, o7, o8, o9, o10, o11, o12] [] (zeRun 177 0 [some (.ref 16), some (.int 1)] [] (zk B im lm)) := ze_call (ok := true) rfl 3 rfl rfl rfl
theorem d_191_5 {B : zeB} {im : Nat → Nat → Int32} {lm : Nat → Nat → Int64} (l1 : Int32) (l2 : Int32) (o3 : Option Value) (o4 : Option Value) (o5 : Option Value) (o6 : Option Value) (o7 : Option Value) (o8 : Option Value) (o9 : Option Value) (o10 : Option Value) (o11 : Option Value) (o12 : Option Value) (s0 : Int32)  : zeRun 191 5 [some (.ref 16), some (.int l1), some (.int l2), o3, o4, o5, o6, o7, o8, o9, o10, o11, o12] [.int s0] (zk B im lm) = zeBh 191 11 [some (.ref 16), some (.int l1), some (.int l2), some (.int s0), o4, o5, o6, o7, o8, o9, o10, o11, o12] [] (zeRun 177 0 [some (.ref 16), some (.int 0)] [] (zk B im lm)) := ze_call (ok := true) rfl 4 rfl rfl rfl
theorem d_191_11 {B : zeB} {im : Nat → Nat → Int32} {lm : Nat → Nat → Int64} (l1 : Int32) (l2 : Int32) (l3 : Int32) (o4 : Option Value) (o5 : Option Value) (o6 : Option Value) (o7 : Option Value) (o8 : Option Value) (o9 : Option Value) (o10 : Option Value) (o11 : Option Value) (o12 : Option Value) (s0 : Int32)  : zeRun 191 11 [some (.ref 16), some (.int l1), some (.int l2), some (.int l3), o4, o5, o6, o7, o8, o9, o10, o11, o12] [.int s0] (zk B im lm) = zeBh 191 18 [some (.ref 16), some (.int l1), some (.int l2), some (.int l3), some (.int s0), o5, o6, o7, o8, o9, o10, o11, o12] [] (zeRun 177 0 [some (.ref 16), some (.int 4)] [] (zk B im lm)) := ze_call (ok := true) rfl 4 rfl rfl rfl
theorem d_191_18 {B : zeB} {im : Nat → Nat → Int32} {lm : Nat → Nat → Int64} (l1 : Int32) (l2 : Int32) (l3 : Int32) (l4 : Int32) (o5 : Option Value) (o6 : Option Value) (o7 : Option Value) (o8 : Option Value) (o9 : Option Value) (o10 : Option Value) (o11 : Option Value) (o12 : Option Value) (s0 : Int32)  : zeRun 191 18 [some (.ref 16), some (.int l1), some (.int l2), some (.int l3), some (.int l4), o5, o6, o7, o8, o9, o10, o11, o12] [.int s0] (zk B im lm) = zeBh 191 25 [some (.ref 16), some (.int l1), some (.int l2), some (.int l3), some (.int l4), some (.int s0), o6, o7, o8, o9, o10, o11, o12] [] (zeRun 189 0 [some (.int l1), some (.int l3)] [] (zk B im lm)) := ze_call (ok := true) rfl 4 rfl rfl rfl
theorem d_191_25 {B : zeB} {im : Nat → Nat → Int32} {lm : Nat → Nat → Int64} (l1 : Int32) (l2 : Int32) (o3 : Option Value) (l4 : Int32) (l5 : Int32) (o6 : Option Value) (o7 : Option Value) (o8 : Option Value) (o9 : Option Value) (o10 : Option Value) (o11 : Option Value) (o12 : Option Value) (s0 : Int32)  : zeRun 191 25 [some (.ref 16), some (.int l1), some (.int l2), o3, some (.int l4), some (.int l5), o6, o7, o8, o9, o10, o11, o12] [.int s0] (zk B im lm) = if l4 = 0 then zeRun 191 32 [some (.ref 16), some (.int l1), some (.int l2), o3, some (.int l4), some (.int l5), some (.int s0), o7, o8, o9, o10, o11, o12] [] (zk B im lm) else zeRun 191 189 [some (.ref 16), some (.int l1), some (.int l2), o3, some (.int l4), some (.int l5), some (.int s0), o7, o8, o9, o10, o11, o12] [] (zk B im lm) := ze_if (ok := true) rfl 3 rfl rfl
theorem d_191_32 {B : zeB} {im : Nat → Nat → Int32} {lm : Nat → Nat → Int64} (l1 : Int32) (l2 : Int32) (o3 : Option Value) (o4 : Option Value) (l5 : Int32) (l6 : Int32) (o7 : Option Value) (o8 : Option Value) (o9 : Option Value) (o10 : Option Value) (o11 : Option Value) (o12 : Option Value)  : zeRun 191 32 [some (.ref 16), some (.int l1), some (.int l2), o3, o4, some (.int l5), some (.int l6), o7, o8, o9, o10, o11, o12] [] (zk B im lm) = zeBh 191 38 [some (.ref 16), some (.int l1), some (.int l2), o3, o4, some (.int l5), some (.int l6), o7, o8, o9, o10, o11, o12] [] (zeRun 189 0 [some (.int l2), some (.int 25)] [] (zk B im lm)) := ze_call (ok := true) rfl 3 rfl rfl rfl
theorem d_191_38 {B : zeB} {im : Nat → Nat → Int32} {lm : Nat → Nat → Int64} (l1 : Int32) (o2 : Option Value) (o3 : Option Value) (o4 : Option Value) (l5 : Int32) (l6 : Int32) (o7 : Option Value) (o8 : Option Value) (o9 : Option Value) (o10 : Option Value) (o11 : Option Value) (o12 : Option Value) (s0 : Int32)  : zeRun 191 38 [some (.ref 16), some (.int l1), o2, o3, o4, some (.int l5), some (.int l6), o7, o8, o9, o10, o11, o12] [.int s0] (zk B im lm) = zeBh 191 47 [some (.ref 16), some (.int l1), o2, o3, o4, some (.int l5), some (.int l6), some (.int s0), o8, o9, o10, o11, o12] [] (zeRun 169 0 [some (.ref 16), some (.int s0), some (.int 2)] [] (zk B im lm)) := ze_call (ok := true) rfl 5 rfl rfl rfl
theorem d_191_47 {B : zeB} {im : Nat → Nat → Int32} {lm : Nat → Nat → Int64} (l1 : Int32) (o2 : Option Value) (o3 : Option Value) (o4 : Option Value) (l5 : Int32) (l6 : Int32) (l7 : Int32) (o8 : Option Value) (o9 : Option Value) (o10 : Option Value) (o11 : Option Value) (o12 : Option Value) (s0 : Int32)  : zeRun 191 47 [some (.ref 16), some (.int l1), o2, o3, o4, some (.int l5), some (.int l6), some (.int l7), o8, o9, o10, o11, o12] [.int s0] (zk B im lm) = if s0 = 1 then zeRun 191 51 [some (.ref 16), some (.int l1), o2, o3, o4, some (.int l5), some (.int l6), some (.int l7), o8, o9, o10, o11, o12] [] (zk B im lm) else zeRun 191 55 [some (.ref 16), some (.int l1), o2, o3, o4, some (.int l5), some (.int l6), some (.int l7), o8, o9, o10, o11, o12] [] (zk B im lm) := ze_if (ok := true) rfl 2 rfl rfl
theorem d_191_51 {B : zeB} {im : Nat → Nat → Int32} {lm : Nat → Nat → Int64} (l1 : Int32) (o2 : Option Value) (o3 : Option Value) (o4 : Option Value) (l5 : Int32) (l6 : Int32) (l7 : Int32) (o8 : Option Value) (o9 : Option Value) (o10 : Option Value) (o11 : Option Value) (o12 : Option Value)  : zeRun 191 51 [some (.ref 16), some (.int l1), o2, o3, o4, some (.int l5), some (.int l6), some (.int l7), o8, o9, o10, o11, o12] [] (zk B im lm) = zeRun 191 56 [some (.ref 16), some (.int l1), o2, o3, o4, some (.int l5), some (.int l6), some (.int l7), o8, o9, o10, o11, o12] [.int 1] (zk B im lm) := ze_go (ok := true) rfl 2 rfl rfl
theorem d_191_55 {B : zeB} {im : Nat → Nat → Int32} {lm : Nat → Nat → Int64} (l1 : Int32) (o2 : Option Value) (o3 : Option Value) (o4 : Option Value) (l5 : Int32) (l6 : Int32) (l7 : Int32) (o8 : Option Value) (o9 : Option Value) (o10 : Option Value) (o11 : Option Value) (o12 : Option Value)  : zeRun 191 55 [some (.ref 16), some (.int l1), o2, o3, o4, some (.int l5), some (.int l6), some (.int l7), o8, o9, o10, o11, o12] [] (zk B im lm) = zeRun 191 56 [some (.ref 16), some (.int l1), o2, o3, o4, some (.int l5), some (.int l6), some (.int l7), o8, o9, o10, o11, o12] [.int 0] (zk B im lm) := ze_go (ok := true) rfl 1 rfl rfl
theorem d_191_189 {B : zeB} {im : Nat → Nat → Int32} {lm : Nat → Nat → Int64} (l1 : Int32) (l2 : Int32) (o3 : Option Value) (l4 : Int32) (l5 : Int32) (l6 : Int32) (o7 : Option Value) (o8 : Option Value) (o9 : Option Value) (o10 : Option Value) (o11 : Option Value) (o12 : Option Value)  : zeRun 191 189 [some (.ref 16), some (.int l1), some (.int l2), o3, some (.int l4), some (.int l5), some (.int l6), o7, o8, o9, o10, o11, o12] [] (zk B im lm) = if l4 = 1 then zeRun 191 195 [some (.ref 16), some (.int l1), some (.int l2), o3, some (.int l4), some (.int l5), some (.int l6), o7, o8, o9, o10, o11, o12] [] (zk B im lm) else zeRun 191 619 [some (.ref 16), some (.int l1), some (.int l2), o3, some (.int l4), some (.int l5), some (.int l6), o7, o8, o9, o10, o11, o12] [] (zk B im lm) := ze_if (ok := true) rfl 3 rfl rfl
theorem d_191_195 {B : zeB} {im : Nat → Nat → Int32} {lm : Nat → Nat → Int64} (l1 : Int32) (l2 : Int32) (o3 : Option Value) (o4 : Option Value) (o5 : Option Value) (l6 : Int32) (o7 : Option Value) (o8 : Option Value) (o9 : Option Value) (o10 : Option Value) (o11 : Option Value) (o12 : Option Value)  : zeRun 191 195 [some (.ref 16), some (.int l1), some (.int l2), o3, o4, o5, some (.int l6), o7, o8, o9, o10, o11, o12] [] (zk B im lm) = if (l2 &&& 3) = 0 then zeRun 191 201 [some (.ref 16), some (.int l1), some (.int l2), o3, o4, o5, some (.int l6), o7, o8, o9, o10, o11, o12] [] (zk B im lm) else zeRun 191 216 [some (.ref 16), some (.int l1), some (.int l2), o3, o4, o5, some (.int l6), o7, o8, o9, o10, o11, o12] [] (zk B im lm) := ze_if (ok := true) rfl 4 rfl rfl
theorem d_191_201 {B : zeB} {im : Nat → Nat → Int32} {lm : Nat → Nat → Int64} (l1 : Int32) (l2 : Int32) (o3 : Option Value) (o4 : Option Value) (o5 : Option Value) (l6 : Int32) (o7 : Option Value) (o8 : Option Value) (o9 : Option Value) (o10 : Option Value) (o11 : Option Value) (o12 : Option Value)  : zeRun 191 201 [some (.ref 16), some (.int l1), some (.int l2), o3, o4, o5, some (.int l6), o7, o8, o9, o10, o11, o12] [] (zk B im lm) = zeBh 191 206 [some (.ref 16), some (.int l1), some (.int l2), o3, o4, o5, some (.int l6), o7, o8, o9, o10, o11, o12] [] (zeRun 166 0 [some (.ref 16), some (.int 0)] [] (zk B im lm)) := ze_call (ok := true) rfl 3 rfl rfl rfl
theorem d_191_206 {B : zeB} {im : Nat → Nat → Int32} {lm : Nat → Nat → Int64} (l1 : Int32) (l2 : Int32) (o3 : Option Value) (o4 : Option Value) (o5 : Option Value) (l6 : Int32) (o7 : Option Value) (o8 : Option Value) (o9 : Option Value) (o10 : Option Value) (o11 : Option Value) (o12 : Option Value) (s0 : Int32)  : zeRun 191 206 [some (.ref 16), some (.int l1), some (.int l2), o3, o4, o5, some (.int l6), o7, o8, o9, o10, o11, o12] [.int s0] (zk B im lm) = if 0 ≤ s0 then zeRun 191 402 [some (.ref 16), some (.int l1), some (.int l2), o3, o4, o5, some (.int l6), o7, o8, o9, o10, o11, o12] [] (zk B im lm) else zeRun 191 209 [some (.ref 16), some (.int l1), some (.int l2), o3, o4, o5, some (.int l6), o7, o8, o9, o10, o11, o12] [] (zk B im lm) := ze_if (ok := true) rfl 1 rfl rfl
theorem d_191_209 {B : zeB} {im : Nat → Nat → Int32} {lm : Nat → Nat → Int64} (l1 : Int32) (l2 : Int32) (o3 : Option Value) (o4 : Option Value) (o5 : Option Value) (l6 : Int32) (o7 : Option Value) (o8 : Option Value) (o9 : Option Value) (o10 : Option Value) (o11 : Option Value) (o12 : Option Value)  : zeRun 191 209 [some (.ref 16), some (.int l1), some (.int l2), o3, o4, o5, some (.int l6), o7, o8, o9, o10, o11, o12] [] (zk B im lm) = if (l2 &&& 12) = 0 then zeRun 191 402 [some (.ref 16), some (.int l1), some (.int l2), o3, o4, o5, some (.int l6), o7, o8, o9, o10, o11, o12] [] (zk B im lm) else zeRun 191 216 [some (.ref 16), some (.int l1), some (.int l2), o3, o4, o5, some (.int l6), o7, o8, o9, o10, o11, o12] [] (zk B im lm) := ze_if (ok := true) rfl 4 rfl rfl
theorem d_191_619 {B : zeB} {im : Nat → Nat → Int32} {lm : Nat → Nat → Int64} (l1 : Int32) (l2 : Int32) (o3 : Option Value) (l4 : Int32) (l5 : Int32) (l6 : Int32) (o7 : Option Value) (o8 : Option Value) (o9 : Option Value) (o10 : Option Value) (o11 : Option Value) (o12 : Option Value)  : zeRun 191 619 [some (.ref 16), some (.int l1), some (.int l2), o3, some (.int l4), some (.int l5), some (.int l6), o7, o8, o9, o10, o11, o12] [] (zk B im lm) = if l4 = 2 then zeRun 191 625 [some (.ref 16), some (.int l1), some (.int l2), o3, some (.int l4), some (.int l5), some (.int l6), o7, o8, o9, o10, o11, o12] [] (zk B im lm) else zeRun 191 734 [some (.ref 16), some (.int l1), some (.int l2), o3, some (.int l4), some (.int l5), some (.int l6), o7, o8, o9, o10, o11, o12] [] (zk B im lm) := ze_if (ok := true) rfl 3 rfl rfl
theorem d_191_625 {B : zeB} {im : Nat → Nat → Int32} {lm : Nat → Nat → Int64} (o1 : Option Value) (l2 : Int32) (o3 : Option Value) (o4 : Option Value) (l5 : Int32) (o6 : Option Value) (o7 : Option Value) (o8 : Option Value) (o9 : Option Value) (o10 : Option Value) (o11 : Option Value) (o12 : Option Value)  : zeRun 191 625 [some (.ref 16), o1, some (.int l2), o3, o4, some (.int l5), o6, o7, o8, o9, o10, o11, o12] [] (zk B im lm) = zeBh 191 632 [some (.ref 16), o1, some (.int l2), o3, o4, some (.int l5), o6, o7, o8, o9, o10, o11, o12] [] (zeRun 156 0 [some (.ref 16), some (.int l5), some (.int 0)] [] (zk B im lm)) := ze_call (ok := true) rfl 4 rfl rfl rfl
theorem d_191_632 {B : zeB} {im : Nat → Nat → Int32} {lm : Nat → Nat → Int64} (o1 : Option Value) (l2 : Int32) (o3 : Option Value) (o4 : Option Value) (l5 : Int32) (o6 : Option Value) (o7 : Option Value) (o8 : Option Value) (o9 : Option Value) (o10 : Option Value) (o11 : Option Value) (o12 : Option Value) (s0 : Int32)  : zeRun 191 632 [some (.ref 16), o1, some (.int l2), o3, o4, some (.int l5), o6, o7, o8, o9, o10, o11, o12] [.int s0] (zk B im lm) = if s0 ≤ 500 then zeRun 191 648 [some (.ref 16), o1, some (.int l2), o3, o4, some (.int l5), o6, o7, o8, o9, o10, o11, o12] [] (zk B im lm) else zeRun 191 638 [some (.ref 16), o1, some (.int l2), o3, o4, some (.int l5), o6, o7, o8, o9, o10, o11, o12] [] (zk B im lm) := ze_if (ok := true) rfl 2 rfl rfl
theorem d_191_648 {B : zeB} {im : Nat → Nat → Int32} {lm : Nat → Nat → Int64} (o1 : Option Value) (l2 : Int32) (o3 : Option Value) (o4 : Option Value) (o5 : Option Value) (o6 : Option Value) (o7 : Option Value) (o8 : Option Value) (o9 : Option Value) (o10 : Option Value) (o11 : Option Value) (o12 : Option Value)  : zeRun 191 648 [some (.ref 16), o1, some (.int l2), o3, o4, o5, o6, o7, o8, o9, o10, o11, o12] [] (zk B im lm) = zeRun 191 651 [some (.ref 16), o1, some (.int l2), o3, o4, o5, o6, o7, o8, o9, o10, o11, o12] [.int 500] (zk B im lm) := ze_go (ok := true) rfl 1 rfl rfl
theorem d_191_638 {B : zeB} {im : Nat → Nat → Int32} {lm : Nat → Nat → Int64} (o1 : Option Value) (l2 : Int32) (o3 : Option Value) (o4 : Option Value) (l5 : Int32) (o6 : Option Value) (o7 : Option Value) (o8 : Option Value) (o9 : Option Value) (o10 : Option Value) (o11 : Option Value) (o12 : Option Value)  : zeRun 191 638 [some (.ref 16), o1, some (.int l2), o3, o4, some (.int l5), o6, o7, o8, o9, o10, o11, o12] [] (zk B im lm) = zeBh 191 645 [some (.ref 16), o1, some (.int l2), o3, o4, some (.int l5), o6, o7, o8, o9, o10, o11, o12] [] (zeRun 156 0 [some (.ref 16), some (.int l5), some (.int 0)] [] (zk B im lm)) := ze_call (ok := true) rfl 4 rfl rfl rfl
theorem d_191_645 {B : zeB} {im : Nat → Nat → Int32} {lm : Nat → Nat → Int64} (o1 : Option Value) (l2 : Int32) (o3 : Option Value) (o4 : Option Value) (o5 : Option Value) (o6 : Option Value) (o7 : Option Value) (o8 : Option Value) (o9 : Option Value) (o10 : Option Value) (o11 : Option Value) (o12 : Option Value) (s0 : Int32)  : zeRun 191 645 [some (.ref 16), o1, some (.int l2), o3, o4, o5, o6, o7, o8, o9, o10, o11, o12] [.int s0] (zk B im lm) = zeRun 191 651 [some (.ref 16), o1, some (.int l2), o3, o4, o5, o6, o7, o8, o9, o10, o11, o12] [.int s0] (zk B im lm) := ze_go (ok := true) rfl 1 rfl rfl
theorem d_191_734 {B : zeB} {im : Nat → Nat → Int32} {lm : Nat → Nat → Int64} (l1 : Int32) (l2 : Int32) (o3 : Option Value) (l4 : Int32) (l5 : Int32) (l6 : Int32) (o7 : Option Value) (o8 : Option Value) (o9 : Option Value) (o10 : Option Value) (o11 : Option Value) (o12 : Option Value)  : zeRun 191 734 [some (.ref 16), some (.int l1), some (.int l2), o3, some (.int l4), some (.int l5), some (.int l6), o7, o8, o9, o10, o11, o12] [] (zk B im lm) = if l4 = 3 then zeRun 191 740 [some (.ref 16), some (.int l1), some (.int l2), o3, some (.int l4), some (.int l5), some (.int l6), o7, o8, o9, o10, o11, o12] [] (zk B im lm) else zeRun 191 847 [some (.ref 16), some (.int l1), some (.int l2), o3, some (.int l4), some (.int l5), some (.int l6), o7, o8, o9, o10, o11, o12] [] (zk B im lm) := ze_if (ok := true) rfl 3 rfl rfl
theorem d_191_740 {B : zeB} {im : Nat → Nat → Int32} {lm : Nat → Nat → Int64} (l1 : Int32) (o2 : Option Value) (o3 : Option Value) (o4 : Option Value) (l5 : Int32) (o6 : Option Value) (o7 : Option Value) (o8 : Option Value) (o9 : Option Value) (o10 : Option Value) (o11 : Option Value) (o12 : Option Value)  : zeRun 191 740 [some (.ref 16), some (.int l1), o2, o3, o4, some (.int l5), o6, o7, o8, o9, o10, o11, o12] [] (zk B im lm) = zeBh 191 745 [some (.ref 16), some (.int l1), o2, o3, o4, some (.int l5), o6, o7, o8, o9, o10, o11, o12] [] (zeRun 177 0 [some (.ref 16), some (.int 5)] [] (zk B im lm)) := ze_call (ok := true) rfl 3 rfl rfl rfl
theorem d_191_745 {B : zeB} {im : Nat → Nat → Int32} {lm : Nat → Nat → Int64} (l1 : Int32) (o2 : Option Value) (o3 : Option Value) (o4 : Option Value) (l5 : Int32) (o6 : Option Value) (o7 : Option Value) (o8 : Option Value) (o9 : Option Value) (o10 : Option Value) (o11 : Option Value) (o12 : Option Value) (s0 : Int32)  : zeRun 191 745 [some (.ref 16), some (.int l1), o2, o3, o4, some (.int l5), o6, o7, o8, o9, o10, o11, o12] [.int s0] (zk B im lm) = if (l1 &&& 64) = 0 then zeRun 191 755 [some (.ref 16), some (.int l1), o2, o3, o4, some (.int l5), o6, some (.int s0), o8, o9, o10, o11, o12] [.ref 16] (zk B im lm) else zeRun 191 759 [some (.ref 16), some (.int l1), o2, o3, o4, some (.int l5), o6, some (.int s0), o8, o9, o10, o11, o12] [.ref 16] (zk B im lm) := ze_if (ok := true) rfl 6 rfl rfl
theorem d_191_755 {B : zeB} {im : Nat → Nat → Int32} {lm : Nat → Nat → Int64} (o1 : Option Value) (o2 : Option Value) (o3 : Option Value) (o4 : Option Value) (l5 : Int32) (o6 : Option Value) (l7 : Int32) (o8 : Option Value) (o9 : Option Value) (o10 : Option Value) (o11 : Option Value) (o12 : Option Value)  : zeRun 191 755 [some (.ref 16), o1, o2, o3, o4, some (.int l5), o6, some (.int l7), o8, o9, o10, o11, o12] [.ref 16] (zk B im lm) = zeRun 191 760 [some (.ref 16), o1, o2, o3, o4, some (.int l5), o6, some (.int l7), o8, o9, o10, o11, o12] [.int 1, .ref 16] (zk B im lm) := ze_go (ok := true) rfl 2 rfl rfl
theorem d_191_759 {B : zeB} {im : Nat → Nat → Int32} {lm : Nat → Nat → Int64} (o1 : Option Value) (o2 : Option Value) (o3 : Option Value) (o4 : Option Value) (l5 : Int32) (o6 : Option Value) (l7 : Int32) (o8 : Option Value) (o9 : Option Value) (o10 : Option Value) (o11 : Option Value) (o12 : Option Value)  : zeRun 191 759 [some (.ref 16), o1, o2, o3, o4, some (.int l5), o6, some (.int l7), o8, o9, o10, o11, o12] [.ref 16] (zk B im lm) = zeRun 191 760 [some (.ref 16), o1, o2, o3, o4, some (.int l5), o6, some (.int l7), o8, o9, o10, o11, o12] [.int 0, .ref 16] (zk B im lm) := ze_go (ok := true) rfl 1 rfl rfl
theorem d_191_847 {B : zeB} {im : Nat → Nat → Int32} {lm : Nat → Nat → Int64} (l1 : Int32) (l2 : Int32) (o3 : Option Value) (l4 : Int32) (o5 : Option Value) (l6 : Int32) (o7 : Option Value) (o8 : Option Value) (o9 : Option Value) (o10 : Option Value) (o11 : Option Value) (o12 : Option Value)  : zeRun 191 847 [some (.ref 16), some (.int l1), some (.int l2), o3, some (.int l4), o5, some (.int l6), o7, o8, o9, o10, o11, o12] [] (zk B im lm) = if l4 = 4 then zeRun 191 853 [some (.ref 16), some (.int l1), some (.int l2), o3, some (.int l4), o5, some (.int l6), o7, o8, o9, o10, o11, o12] [] (zk B im lm) else zeRun 191 970 [some (.ref 16), some (.int l1), some (.int l2), o3, some (.int l4), o5, some (.int l6), o7, o8, o9, o10, o11, o12] [] (zk B im lm) := ze_if (ok := true) rfl 3 rfl rfl
theorem d_191_853 {B : zeB} {im : Nat → Nat → Int32} {lm : Nat → Nat → Int64} (o1 : Option Value) (l2 : Int32) (o3 : Option Value) (o4 : Option Value) (o5 : Option Value) (l6 : Int32) (o7 : Option Value) (o8 : Option Value) (o9 : Option Value) (o10 : Option Value) (o11 : Option Value) (o12 : Option Value)  : zeRun 191 853 [some (.ref 16), o1, some (.int l2), o3, o4, o5, some (.int l6), o7, o8, o9, o10, o11, o12] [] (zk B im lm) = zeBh 191 861 [some (.ref 16), o1, some (.int l2), o3, o4, o5, some (.int l6), o7, o8, o9, o10, o11, o12] [] (zeRun 156 0 [some (.ref 16), some (.int l6), some (.int 6)] [] (zk B im lm)) := ze_call (ok := true) rfl 4 rfl rfl rfl
theorem d_191_861 {B : zeB} {im : Nat → Nat → Int32} {lm : Nat → Nat → Int64} (o1 : Option Value) (l2 : Int32) (o3 : Option Value) (o4 : Option Value) (o5 : Option Value) (l6 : Int32) (o7 : Option Value) (o8 : Option Value) (o9 : Option Value) (o10 : Option Value) (o11 : Option Value) (o12 : Option Value) (s0 : Int32)  : zeRun 191 861 [some (.ref 16), o1, some (.int l2), o3, o4, o5, some (.int l6), o7, o8, o9, o10, o11, o12] [.int s0] (zk B im lm) = zeBh 191 870 [some (.ref 16), o1, some (.int l2), o3, o4, o5, some (.int l6), some (.int s0), o8, o9, o10, o11, o12] [] (zeRun 189 0 [some (.int l2), some (.int 900)] [] (zk B im lm)) := ze_call (ok := true) rfl 4 rfl rfl rfl
theorem d_191_870 {B : zeB} {im : Nat → Nat → Int32} {lm : Nat → Nat → Int64} (o1 : Option Value) (o2 : Option Value) (o3 : Option Value) (o4 : Option Value) (o5 : Option Value) (l6 : Int32) (l7 : Int32) (o8 : Option Value) (o9 : Option Value) (o10 : Option Value) (o11 : Option Value) (o12 : Option Value) (s0 : Int32)  : zeRun 191 870 [some (.ref 16), o1, o2, o3, o4, o5, some (.int l6), some (.int l7), o8, o9, o10, o11, o12] [.int s0] (zk B im lm) = zeBh 191 880 [some (.ref 16), o1, o2, o3, o4, o5, some (.int l6), some (.int l7), some (.int s0), o9, o10, o11, o12] [] (zeRun 110 0 [some (.ref 16), some (.int l6), some (.int s0)] [] (zk B im lm)) := ze_call (ok := true) rfl 5 rfl rfl rfl
theorem d_191_880 {B : zeB} {im : Nat → Nat → Int32} {lm : Nat → Nat → Int64} (o1 : Option Value) (o2 : Option Value) (o3 : Option Value) (o4 : Option Value) (o5 : Option Value) (l6 : Int32) (l7 : Int32) (l8 : Int32) (o9 : Option Value) (o10 : Option Value) (o11 : Option Value) (o12 : Option Value) (s0 : Int32)  : zeRun 191 880 [some (.ref 16), o1, o2, o3, o4, o5, some (.int l6), some (.int l7), some (.int l8), o9, o10, o11, o12] [.int s0] (zk B im lm) = if s0 = (-10000003) then zeRun 191 889 [some (.ref 16), o1, o2, o3, o4, o5, some (.int l6), some (.int l7), some (.int l8), some (.int s0), o10, o11, o12] [] (zk B im lm) else zeRun 191 923 [some (.ref 16), o1, o2, o3, o4, o5, some (.int l6), some (.int l7), some (.int l8), some (.int s0), o10, o11, o12] [] (zk B im lm) := ze_if (ok := true) rfl 4 rfl rfl
theorem d_191_889 {B : zeB} {im : Nat → Nat → Int32} {lm : Nat → Nat → Int64} (o1 : Option Value) (o2 : Option Value) (o3 : Option Value) (o4 : Option Value) (o5 : Option Value) (o6 : Option Value) (l7 : Int32) (o8 : Option Value) (o9 : Option Value) (o10 : Option Value) (o11 : Option Value) (o12 : Option Value)  : zeRun 191 889 [some (.ref 16), o1, o2, o3, o4, o5, o6, some (.int l7), o8, o9, o10, o11, o12] [] (zk B im lm) = zeBh 191 895 [some (.ref 16), o1, o2, o3, o4, o5, o6, some (.int l7), o8, o9, o10, o11, o12] [] (zeRun 177 0 [some (.ref 16), some (.int 11)] [] (zk B im lm)) := ze_call (ok := true) rfl 3 rfl rfl rfl
theorem d_191_895 {B : zeB} {im : Nat → Nat → Int32} {lm : Nat → Nat → Int64} (o1 : Option Value) (o2 : Option Value) (o3 : Option Value) (o4 : Option Value) (o5 : Option Value) (o6 : Option Value) (l7 : Int32) (o8 : Option Value) (o9 : Option Value) (o10 : Option Value) (o11 : Option Value) (o12 : Option Value) (s0 : Int32)  : zeRun 191 895 [some (.ref 16), o1, o2, o3, o4, o5, o6, some (.int l7), o8, o9, o10, o11, o12] [.int s0] (zk B im lm) = if s0 = 6 then zeRun 191 915 [some (.ref 16), o1, o2, o3, o4, o5, o6, some (.int l7), o8, o9, o10, o11, o12] [] (zk B im lm) else zeRun 191 900 [some (.ref 16), o1, o2, o3, o4, o5, o6, some (.int l7), o8, o9, o10, o11, o12] [] (zk B im lm) := ze_if (ok := true) rfl 2 rfl rfl
theorem d_191_915 {B : zeB} {im : Nat → Nat → Int32} {lm : Nat → Nat → Int64} (o0 : Option Value) (o1 : Option Value) (o2 : Option Value) (o3 : Option Value) (o4 : Option Value) (o5 : Option Value) (o6 : Option Value) (o7 : Option Value) (o8 : Option Value) (o9 : Option Value) (o10 : Option Value) (o11 : Option Value) (o12 : Option Value)  : zeRun 191 915 [o0, o1, o2, o3, o4, o5, o6, o7, o8, o9, o10, o11, o12] [] (zk B im lm) = some (some (.int 1), (zk B im lm)) := ze_ret (ok := true) rfl 3 rfl rfl
theorem d_191_900 {B : zeB} {im : Nat → Nat → Int32} {lm : Nat → Nat → Int64} (o1 : Option Value) (o2 : Option Value) (o3 : Option Value) (o4 : Option Value) (o5 : Option Value) (o6 : Option Value) (l7 : Int32) (o8 : Option Value) (o9 : Option Value) (o10 : Option Value) (o11 : Option Value) (o12 : Option Value)  : zeRun 191 900 [some (.ref 16), o1, o2, o3, o4, o5, o6, some (.int l7), o8, o9, o10, o11, o12] [] (zk B im lm) = zeBh 191 906 [some (.ref 16), o1, o2, o3, o4, o5, o6, some (.int l7), o8, o9, o10, o11, o12] [] (zeRun 177 0 [some (.ref 16), some (.int 11)] [] (zk B im lm)) := ze_call (ok := true) rfl 3 rfl rfl rfl
theorem d_191_906 {B : zeB} {im : Nat → Nat → Int32} {lm : Nat → Nat → Int64} (o0 : Option Value) (o1 : Option Value) (o2 : Option Value) (o3 : Option Value) (o4 : Option Value) (o5 : Option Value) (o6 : Option Value) (l7 : Int32) (o8 : Option Value) (o9 : Option Value) (o10 : Option Value) (o11 : Option Value) (o12 : Option Value) (s0 : Int32)  : zeRun 191 906 [o0, o1, o2, o3, o4, o5, o6, some (.int l7), o8, o9, o10, o11, o12] [.int s0] (zk B im lm) = if s0 = 5 then zeRun 191 910 [o0, o1, o2, o3, o4, o5, o6, some (.int l7), o8, o9, o10, o11, o12] [] (zk B im lm) else zeRun 191 919 [o0, o1, o2, o3, o4, o5, o6, some (.int l7), o8, o9, o10, o11, o12] [] (zk B im lm) := ze_if (ok := true) rfl 2 rfl rfl
theorem d_191_910 {B : zeB} {im : Nat → Nat → Int32} {lm : Nat → Nat → Int64} (o0 : Option Value) (o1 : Option Value) (o2 : Option Value) (o3 : Option Value) (o4 : Option Value) (o5 : Option Value) (o6 : Option Value) (l7 : Int32) (o8 : Option Value) (o9 : Option Value) (o10 : Option Value) (o11 : Option Value) (o12 : Option Value)  : zeRun 191 910 [o0, o1, o2, o3, o4, o5, o6, some (.int l7), o8, o9, o10, o11, o12] [] (zk B im lm) = if 0 ≤ l7 then zeRun 191 919 [o0, o1, o2, o3, o4, o5, o6, some (.int l7), o8, o9, o10, o11, o12] [] (zk B im lm) else zeRun 191 915 [o0, o1, o2, o3, o4, o5, o6, some (.int l7), o8, o9, o10, o11, o12] [] (zk B im lm) := ze_if (ok := true) rfl 2 rfl rfl
theorem d_191_919 {B : zeB} {im : Nat → Nat → Int32} {lm : Nat → Nat → Int64} (o0 : Option Value) (o1 : Option Value) (o2 : Option Value) (o3 : Option Value) (o4 : Option Value) (o5 : Option Value) (o6 : Option Value) (o7 : Option Value) (o8 : Option Value) (o9 : Option Value) (o10 : Option Value) (o11 : Option Value) (o12 : Option Value)  : zeRun 191 919 [o0, o1, o2, o3, o4, o5, o6, o7, o8, o9, o10, o11, o12] [] (zk B im lm) = some (some (.int 0), (zk B im lm)) := ze_ret (ok := true) rfl 3 rfl rfl
theorem d_191_923 {B : zeB} {im : Nat → Nat → Int32} {lm : Nat → Nat → Int64} (o1 : Option Value) (o2 : Option Value) (o3 : Option Value) (o4 : Option Value) (o5 : Option Value) (l6 : Int32) (l7 : Int32) (l8 : Int32) (l9 : Int32) (o10 : Option Value) (o11 : Option Value) (o12 : Option Value)  : zeRun 191 923 [some (.ref 16), o1, o2, o3, o4, o5, some (.int l6), some (.int l7), some (.int l8), some (.int l9), o10, o11, o12] [] (zk B im lm) = if l9 < 0 then zeRun 191 968 [some (.ref 16), o1, o2, o3, o4, o5, some (.int l6), some (.int l7), some (.int l8), some (.int l9), o10, o11, o12] [] (zk B im lm) else zeRun 191 928 [some (.ref 16), o1, o2, o3, o4, o5, some (.int l6), some (.int l7), some (.int l8), some (.int l9), o10, o11, o12] [] (zk B im lm) := ze_if (ok := true) rfl 2 rfl rfl
theorem d_191_968 {B : zeB} {im : Nat → Nat → Int32} {lm : Nat → Nat → Int64} (o0 : Option Value) (o1 : Option Value) (o2 : Option Value) (o3 : Option Value) (o4 : Option Value) (o5 : Option Value) (o6 : Option Value) (o7 : Option Value) (o8 : Option Value) (o9 : Option Value) (o10 : Option Value) (o11 : Option Value) (o12 : Option Value)  : zeRun 191 968 [o0, o1, o2, o3, o4, o5, o6, o7, o8, o9, o10, o11, o12] [] (zk B im lm) = some (some (.int 0), (zk B im lm)) := ze_ret (ok := true) rfl 2 rfl rfl
theorem d_191_928 {B : zeB} {im : Nat → Nat → Int32} {lm : Nat → Nat → Int64} (o1 : Option Value) (o2 : Option Value) (o3 : Option Value) (o4 : Option Value) (o5 : Option Value) (l6 : Int32) (l7 : Int32) (l8 : Int32) (l9 : Int32) (o10 : Option Value) (o11 : Option Value) (o12 : Option Value)  : zeRun 191 928 [some (.ref 16), o1, o2, o3, o4, o5, some (.int l6), some (.int l7), some (.int l8), some (.int l9), o10, o11, o12] [] (zk B im lm) = if 0 ≤ l7 then zeRun 191 968 [some (.ref 16), o1, o2, o3, o4, o5, some (.int l6), some (.int l7), some (.int l8), some (.int l9), o10, o11, o12] [] (zk B im lm) else zeRun 191 933 [some (.ref 16), o1, o2, o3, o4, o5, some (.int l6), some (.int l7), some (.int l8), some (.int l9), o10, o11, o12] [] (zk B im lm) := ze_if (ok := true) rfl 2 rfl rfl
theorem d_191_933 {B : zeB} {im : Nat → Nat → Int32} {lm : Nat → Nat → Int64} (o1 : Option Value) (o2 : Option Value) (o3 : Option Value) (o4 : Option Value) (o5 : Option Value) (l6 : Int32) (o7 : Option Value) (l8 : Int32) (l9 : Int32) (o10 : Option Value) (o11 : Option Value) (o12 : Option Value)  : zeRun 191 933 [some (.ref 16), o1, o2, o3, o4, o5, some (.int l6), o7, some (.int l8), some (.int l9), o10, o11, o12] [] (zk B im lm) = zeBh 191 941 [some (.ref 16), o1, o2, o3, o4, o5, some (.int l6), o7, some (.int l8), some (.int l9), o10, o11, o12] [] (zeRun 156 0 [some (.ref 16), some (.int l6), some (.int 6)] [] (zk B im lm)) := ze_call (ok := true) rfl 4 rfl rfl rfl
theorem d_191_941 {B : zeB} {im : Nat → Nat → Int32} {lm : Nat → Nat → Int64} (o1 : Option Value) (o2 : Option Value) (o3 : Option Value) (o4 : Option Value) (o5 : Option Value) (o6 : Option Value) (o7 : Option Value) (l8 : Int32) (l9 : Int32) (o10 : Option Value) (o11 : Option Value) (o12 : Option Value) (s0 : Int32)  : zeRun 191 941 [some (.ref 16), o1, o2, o3, o4, o5, o6, o7, some (.int l8), some (.int l9), o10, o11, o12] [.int s0] (zk B im lm) = if s0 = l8 then zeRun 191 946 [some (.ref 16), o1, o2, o3, o4, o5, o6, o7, some (.int l8), some (.int l9), o10, o11, o12] [] (zk B im lm) else zeRun 191 968 [some (.ref 16), o1, o2, o3, o4, o5, o6, o7, some (.int l8), some (.int l9), o10, o11, o12] [] (zk B im lm) := ze_if (ok := true) rfl 2 rfl rfl
theorem d_191_946 {B : zeB} {im : Nat → Nat → Int32} {lm : Nat → Nat → Int64} (o1 : Option Value) (o2 : Option Value) (o3 : Option Value) (o4 : Option Value) (o5 : Option Value) (o6 : Option Value) (o7 : Option Value) (o8 : Option Value) (l9 : Int32) (o10 : Option Value) (o11 : Option Value) (o12 : Option Value)  : zeRun 191 946 [some (.ref 16), o1, o2, o3, o4, o5, o6, o7, o8, some (.int l9), o10, o11, o12] [] (zk B im lm) = zeBh 191 951 [some (.ref 16), o1, o2, o3, o4, o5, o6, o7, o8, some (.int l9), o10, o11, o12] [] (zeRun 177 0 [some (.ref 16), some (.int 0)] [] (zk B im lm)) := ze_call (ok := true) rfl 3 rfl rfl rfl
theorem d_191_951 {B : zeB} {im : Nat → Nat → Int32} {lm : Nat → Nat → Int64} (o0 : Option Value) (o1 : Option Value) (o2 : Option Value) (o3 : Option Value) (o4 : Option Value) (o5 : Option Value) (o6 : Option Value) (o7 : Option Value) (o8 : Option Value) (l9 : Int32) (o10 : Option Value) (o11 : Option Value) (o12 : Option Value) (s0 : Int32)  : zeRun 191 951 [o0, o1, o2, o3, o4, o5, o6, o7, o8, some (.int l9), o10, o11, o12] [.int s0] (zk B im lm) = if l9 = 0 then zeRun 191 956 [o0, o1, o2, o3, o4, o5, o6, o7, o8, some (.int l9), o10, o11, o12] [.int s0] (zk B im lm) else zeRun 191 960 [o0, o1, o2, o3, o4, o5, o6, o7, o8, some (.int l9), o10, o11, o12] [.int s0] (zk B im lm) := ze_if (ok := true) rfl 2 rfl rfl
theorem d_191_956 {B : zeB} {im : Nat → Nat → Int32} {lm : Nat → Nat → Int64} (o0 : Option Value) (o1 : Option Value) (o2 : Option Value) (o3 : Option Value) (o4 : Option Value) (o5 : Option Value) (o6 : Option Value) (o7 : Option Value) (o8 : Option Value) (o9 : Option Value) (o10 : Option Value) (o11 : Option Value) (o12 : Option Value) (s0 : Int32)  : zeRun 191 956 [o0, o1, o2, o3, o4, o5, o6, o7, o8, o9, o10, o11, o12] [.int s0] (zk B im lm) = zeRun 191 961 [o0, o1, o2, o3, o4, o5, o6, o7, o8, o9, o10, o11, o12] [.int 5, .int s0] (zk B im lm) := ze_go (ok := true) rfl 2 rfl rfl
theorem d_191_960 {B : zeB} {im : Nat → Nat → Int32} {lm : Nat → Nat → Int64} (o0 : Option Value) (o1 : Option Value) (o2 : Option Value) (o3 : Option Value) (o4 : Option Value) (o5 : Option Value) (o6 : Option Value) (o7 : Option Value) (o8 : Option Value) (o9 : Option Value) (o10 : Option Value) (o11 : Option Value) (o12 : Option Value) (s0 : Int32)  : zeRun 191 960 [o0, o1, o2, o3, o4, o5, o6, o7, o8, o9, o10, o11, o12] [.int s0] (zk B im lm) = zeRun 191 961 [o0, o1, o2, o3, o4, o5, o6, o7, o8, o9, o10, o11, o12] [.int 4, .int s0] (zk B im lm) := ze_go (ok := true) rfl 1 rfl rfl
theorem d_191_970 {B : zeB} {im : Nat → Nat → Int32} {lm : Nat → Nat → Int64} (l1 : Int32) (o2 : Option Value) (o3 : Option Value) (l4 : Int32) (o5 : Option Value) (o6 : Option Value) (o7 : Option Value) (o8 : Option Value) (o9 : Option Value) (o10 : Option Value) (o11 : Option Value) (o12 : Option Value)  : zeRun 191 970 [some (.ref 16), some (.int l1), o2, o3, some (.int l4), o5, o6, o7, o8, o9, o10, o11, o12] [] (zk B im lm) = if l4 = 5 then zeRun 191 976 [some (.ref 16), some (.int l1), o2, o3, some (.int l4), o5, o6, o7, o8, o9, o10, o11, o12] [] (zk B im lm) else zeRun 191 1101 [some (.ref 16), some (.int l1), o2, o3, some (.int l4), o5, o6, o7, o8, o9, o10, o11, o12] [] (zk B im lm) := ze_if (ok := true) rfl 3 rfl rfl
theorem d_191_976 {B : zeB} {im : Nat → Nat → Int32} {lm : Nat → Nat → Int64} (l1 : Int32) (o2 : Option Value) (o3 : Option Value) (o4 : Option Value) (o5 : Option Value) (o6 : Option Value) (o7 : Option Value) (o8 : Option Value) (o9 : Option Value) (o10 : Option Value) (o11 : Option Value) (o12 : Option Value)  : zeRun 191 976 [some (.ref 16), some (.int l1), o2, o3, o4, o5, o6, o7, o8, o9, o10, o11, o12] [] (zk B im lm) = zeBh 191 982 [some (.ref 16), some (.int l1), o2, o3, o4, o5, o6, o7, o8, o9, o10, o11, o12] [] (zeRun 177 0 [some (.ref 16), some (.int 14)] [] (zk B im lm)) := ze_call (ok := true) rfl 3 rfl rfl rfl
theorem d_191_982 {B : zeB} {im : Nat → Nat → Int32} {lm : Nat → Nat → Int64} (l1 : Int32) (o2 : Option Value) (o3 : Option Value) (o4 : Option Value) (o5 : Option Value) (o6 : Option Value) (o7 : Option Value) (o8 : Option Value) (o9 : Option Value) (o10 : Option Value) (o11 : Option Value) (o12 : Option Value) (s0 : Int32)  : zeRun 191 982 [some (.ref 16), some (.int l1), o2, o3, o4, o5, o6, o7, o8, o9, o10, o11, o12] [.int s0] (zk B im lm) = zeBh 191 989 [some (.ref 16), some (.int l1), o2, o3, o4, o5, o6, some (.int s0), o8, o9, o10, o11, o12] [] (zeRun 177 0 [some (.ref 16), some (.int 5)] [] (zk B im lm)) := ze_call (ok := true) rfl 4 rfl rfl rfl
theorem d_191_989 {B : zeB} {im : Nat → Nat → Int32} {lm : Nat → Nat → Int64} (l1 : Int32) (o2 : Option Value) (o3 : Option Value) (o4 : Option Value) (o5 : Option Value) (o6 : Option Value) (l7 : Int32) (o8 : Option Value) (o9 : Option Value) (o10 : Option Value) (o11 : Option Value) (o12 : Option Value) (s0 : Int32)  : zeRun 191 989 [some (.ref 16), some (.int l1), o2, o3, o4, o5, o6, some (.int l7), o8, o9, o10, o11, o12] [.int s0] (zk B im lm) = if (l1 &&& 64) = 0 then zeRun 191 999 [some (.ref 16), some (.int l1), o2, o3, o4, o5, o6, some (.int l7), some (.int s0), o9, o10, o11, o12] [.ref 16] (zk B im lm) else zeRun 191 1003 [some (.ref 16), some (.int l1), o2, o3, o4, o5, o6, some (.int l7), some (.int s0), o9, o10, o11, o12] [.ref 16] (zk B im lm) := ze_if (ok := true) rfl 6 rfl rfl
theorem d_191_999 {B : zeB} {im : Nat → Nat → Int32} {lm : Nat → Nat → Int64} (o1 : Option Value) (o2 : Option Value) (o3 : Option Value) (o4 : Option Value) (o5 : Option Value) (o6 : Option Value) (l7 : Int32) (l8 : Int32) (o9 : Option Value) (o10 : Option Value) (o11 : Option Value) (o12 : Option Value)  : zeRun 191 999 [some (.ref 16), o1, o2, o3, o4, o5, o6, some (.int l7), some (.int l8), o9, o10, o11, o12] [.ref 16] (zk B im lm) = zeRun 191 1004 [some (.ref 16), o1, o2, o3, o4, o5, o6, some (.int l7), some (.int l8), o9, o10, o11, o12] [.int 1, .ref 16] (zk B im lm) := ze_go (ok := true) rfl 2 rfl rfl
theorem d_191_1003 {B : zeB} {im : Nat → Nat → Int32} {lm : Nat → Nat → Int64} (o1 : Option Value) (o2 : Option Value) (o3 : Option Value) (o4 : Option Value) (o5 : Option Value) (o6 : Option Value) (l7 : Int32) (l8 : Int32) (o9 : Option Value) (o10 : Option Value) (o11 : Option Value) (o12 : Option Value)  : zeRun 191 1003 [some (.ref 16), o1, o2, o3, o4, o5, o6, some (.int l7), some (.int l8), o9, o10, o11, o12] [.ref 16] (zk B im lm) = zeRun 191 1004 [some (.ref 16), o1, o2, o3, o4, o5, o6, some (.int l7), some (.int l8), o9, o10, o11, o12] [.int 0, .ref 16] (zk B im lm) := ze_go (ok := true) rfl 1 rfl rfl
theorem d_191_1101 {B : zeB} {im : Nat → Nat → Int32} {lm : Nat → Nat → Int64} (o1 : Option Value) (o2 : Option Value) (o3 : Option Value) (o4 : Option Value) (o5 : Option Value) (o6 : Option Value) (o7 : Option Value) (o8 : Option Value) (o9 : Option Value) (o10 : Option Value) (o11 : Option Value) (o12 : Option Value)  : zeRun 191 1101 [some (.ref 16), o1, o2, o3, o4, o5, o6, o7, o8, o9, o10, o11, o12] [] (zk B im lm) = zeBh 191 1106 [some (.ref 16), o1, o2, o3, o4, o5, o6, o7, o8, o9, o10, o11, o12] [] (zeRun 86 0 [some (.ref 16), some (.int 1)] [] (zk B im lm)) := ze_call (ok := true) rfl 3 rfl rfl rfl
theorem d_191_1106 {B : zeB} {im : Nat → Nat → Int32} {lm : Nat → Nat → Int64} (o1 : Option Value) (o2 : Option Value) (o3 : Option Value) (o4 : Option Value) (o5 : Option Value) (o6 : Option Value) (o7 : Option Value) (o8 : Option Value) (o9 : Option Value) (o10 : Option Value) (o11 : Option Value) (o12 : Option Value) (s0 : Int32)  : zeRun 191 1106 [some (.ref 16), o1, o2, o3, o4, o5, o6, o7, o8, o9, o10, o11, o12] [.int s0] (zk B im lm) = if s0 = (-10000003) then zeRun 191 1111 [some (.ref 16), o1, o2, o3, o4, o5, o6, o7, o8, o9, o10, o11, o12] [] (zk B im lm) else zeRun 191 1143 [some (.ref 16), o1, o2, o3, o4, o5, o6, o7, o8, o9, o10, o11, o12] [] (zk B im lm) := ze_if (ok := true) rfl 2 rfl rfl
theorem d_191_1111 {B : zeB} {im : Nat → Nat → Int32} {lm : Nat → Nat → Int64} (o1 : Option Value) (o2 : Option Value) (o3 : Option Value) (o4 : Option Value) (o5 : Option Value) (o6 : Option Value) (o7 : Option Value) (o8 : Option Value) (o9 : Option Value) (o10 : Option Value) (o11 : Option Value) (o12 : Option Value)  : zeRun 191 1111 [some (.ref 16), o1, o2, o3, o4, o5, o6, o7, o8, o9, o10, o11, o12] [] (zk B im lm) = zeBh 191 1115 [some (.ref 16), o1, o2, o3, o4, o5, o6, o7, o8, o9, o10, o11, o12] [] (zeRun 93 0 [some (.ref 16)] [] (zk B im lm)) := ze_call (ok := true) rfl 2 rfl rfl rfl
theorem d_191_1115 {B : zeB} {im : Nat → Nat → Int32} {lm : Nat → Nat → Int64} (o1 : Option Value) (o2 : Option Value) (o3 : Option Value) (o4 : Option Value) (o5 : Option Value) (o6 : Option Value) (o7 : Option Value) (o8 : Option Value) (o9 : Option Value) (o10 : Option Value) (o11 : Option Value) (o12 : Option Value) (s0 : Int32)  : zeRun 191 1115 [some (.ref 16), o1, o2, o3, o4, o5, o6, o7, o8, o9, o10, o11, o12] [.int s0] (zk B im lm) = if s0 = (-10000003) then zeRun 191 1120 [some (.ref 16), o1, o2, o3, o4, o5, o6, o7, o8, o9, o10, o11, o12] [] (zk B im lm) else zeRun 191 1143 [some (.ref 16), o1, o2, o3, o4, o5, o6, o7, o8, o9, o10, o11, o12] [] (zk B im lm) := ze_if (ok := true) rfl 2 rfl rfl
theorem d_191_1120 {B : zeB} {im : Nat → Nat → Int32} {lm : Nat → Nat → Int64} (o1 : Option Value) (o2 : Option Value) (o3 : Option Value) (o4 : Option Value) (o5 : Option Value) (o6 : Option Value) (o7 : Option Value) (o8 : Option Value) (o9 : Option Value) (o10 : Option Value) (o11 : Option Value) (o12 : Option Value)  : zeRun 191 1120 [some (.ref 16), o1, o2, o3, o4, o5, o6, o7, o8, o9, o10, o11, o12] [] (zk B im lm) = zeBh 191 1124 [some (.ref 16), o1, o2, o3, o4, o5, o6, o7, o8, o9, o10, o11, o12] [] (zeRun 105 0 [some (.ref 16)] [] (zk B im lm)) := ze_call (ok := true) rfl 2 rfl rfl rfl
theorem d_191_1124 {B : zeB} {im : Nat → Nat → Int32} {lm : Nat → Nat → Int64} (o1 : Option Value) (o2 : Option Value) (o3 : Option Value) (o4 : Option Value) (o5 : Option Value) (o6 : Option Value) (o7 : Option Value) (o8 : Option Value) (o9 : Option Value) (o10 : Option Value) (o11 : Option Value) (o12 : Option Value) (s0 : Int32)  : zeRun 191 1124 [some (.ref 16), o1, o2, o3, o4, o5, o6, o7, o8, o9, o10, o11, o12] [.int s0] (zk B im lm) = if s0 = (-10000003) then zeRun 191 1129 [some (.ref 16), o1, o2, o3, o4, o5, o6, o7, o8, o9, o10, o11, o12] [] (zk B im lm) else zeRun 191 1143 [some (.ref 16), o1, o2, o3, o4, o5, o6, o7, o8, o9, o10, o11, o12] [] (zk B im lm) := ze_if (ok := true) rfl 2 rfl rfl
theorem d_191_1129 {B : zeB} {im : Nat → Nat → Int32} {lm : Nat → Nat → Int64} (o1 : Option Value) (o2 : Option Value) (o3 : Option Value) (o4 : Option Value) (o5 : Option Value) (o6 : Option Value) (o7 : Option Value) (o8 : Option Value) (o9 : Option Value) (o10 : Option Value) (o11 : Option Value) (o12 : Option Value)  : zeRun 191 1129 [some (.ref 16), o1, o2, o3, o4, o5, o6, o7, o8, o9, o10, o11, o12] [] (zk B im lm) = zeBh 191 1135 [some (.ref 16), o1, o2, o3, o4, o5, o6, o7, o8, o9, o10, o11, o12] [] (zeRun 177 0 [some (.ref 16), some (.int 11)] [] (zk B im lm)) := ze_call (ok := true) rfl 3 rfl rfl rfl
theorem d_191_1135 {B : zeB} {im : Nat → Nat → Int32} {lm : Nat → Nat → Int64} (o0 : Option Value) (o1 : Option Value) (o2 : Option Value) (o3 : Option Value) (o4 : Option Value) (o5 : Option Value) (o6 : Option Value) (o7 : Option Value) (o8 : Option Value) (o9 : Option Value) (o10 : Option Value) (o11 : Option Value) (o12 : Option Value) (s0 : Int32)  : zeRun 191 1135 [o0, o1, o2, o3, o4, o5, o6, o7, o8, o9, o10, o11, o12] [.int s0] (zk B im lm) = if s0 = 1 then zeRun 191 1139 [o0, o1, o2, o3, o4, o5, o6, o7, o8, o9, o10, o11, o12] [] (zk B im lm) else zeRun 191 1143 [o0, o1, o2, o3, o4, o5, o6, o7, o8, o9, o10, o11, o12] [] (zk B im lm) := ze_if (ok := true) rfl 2 rfl rfl
theorem d_191_1139 {B : zeB} {im : Nat → Nat → Int32} {lm : Nat → Nat → Int64} (o0 : Option Value) (o1 : Option Value) (o2 : Option Value) (o3 : Option Value) (o4 : Option Value) (o5 : Option Value) (o6 : Option Value) (o7 : Option Value) (o8 : Option Value) (o9 : Option Value) (o10 : Option Value) (o11 : Option Value) (o12 : Option Value)  : zeRun 191 1139 [o0, o1, o2, o3, o4, o5, o6, o7, o8, o9, o10, o11, o12] [] (zk B im lm) = some (some (.int 1), (zk B im lm)) := ze_ret (ok := true) rfl 3 rfl rfl
theorem d_191_1143 {B : zeB} {im : Nat → Nat → Int32} {lm : Nat → Nat → Int64} (o0 : Option Value) (o1 : Option Value) (o2 : Option Value) (o3 : Option Value) (o4 : Option Value) (o5 : Option Value) (o6 : Option Value) (o7 : Option Value) (o8 : Option Value) (o9 : Option Value) (o10 : Option Value) (o11 : Option Value) (o12 : Option Value)  : zeRun 191 1143 [o0, o1, o2, o3, o4, o5, o6, o7, o8, o9, o10, o11, o12] [] (zk B im lm) = some (some (.int 0), (zk B im lm)) := ze_ret (ok := true) rfl 2 rfl rfl
theorem d_191_1004 {B : zeB} {im : Nat → Nat → Int32} {lm : Nat → Nat → Int64} (o1 : Option Value) (o2 : Option Value) (o3 : Option Value) (o4 : Option Value) (o5 : Option Value) (o6 : Option Value) (l7 : Int32) (l8 : Int32) (o9 : Option Value) (o10 : Option Value) (o11 : Option Value) (o12 : Option Value) (s1 : Int32)  : zeRun 191 1004 [some (.ref 16), o1, o2, o3, o4, o5, o6, some (.int l7), some (.int l8), o9, o10, o11, o12] [.int s1, .ref 16] (zk B im lm) = zeBh 191 1007 [some (.ref 16), o1, o2, o3, o4, o5, o6, some (.int l7), some (.int l8), o9, o10, o11, o12] [] (zeRun 86 0 [some (.ref 16), some (.int s1)] [] (zk B im lm)) := ze_call (ok := true) rfl 1 rfl rfl rfl
theorem d_191_1007 {B : zeB} {im : Nat → Nat → Int32} {lm : Nat → Nat → Int64} (o1 : Option Value) (o2 : Option Value) (o3 : Option Value) (o4 : Option Value) (o5 : Option Value) (o6 : Option Value) (l7 : Int32) (l8 : Int32) (o9 : Option Value) (o10 : Option Value) (o11 : Option Value) (o12 : Option Value) (s0 : Int32)  : zeRun 191 1007 [some (.ref 16), o1, o2, o3, o4, o5, o6, some (.int l7), some (.int l8), o9, o10, o11, o12] [.int s0] (zk B im lm) = if l8 = 60 then zeRun 191 1016 [some (.ref 16), o1, o2, o3, o4, o5, o6, some (.int l7), some (.int l8), some (.int s0), o10, o11, o12] [] (zk B im lm) else zeRun 191 1031 [some (.ref 16), o1, o2, o3, o4, o5, o6, some (.int l7), some (.int l8), some (.int s0), o10, o11, o12] [] (zk B im lm) := ze_if (ok := true) rfl 4 rfl rfl
theorem d_191_1016 {B : zeB} {im : Nat → Nat → Int32} {lm : Nat → Nat → Int64} (o0 : Option Value) (o1 : Option Value) (o2 : Option Value) (o3 : Option Value) (o4 : Option Value) (o5 : Option Value) (o6 : Option Value) (o7 : Option Value) (o8 : Option Value) (l9 : Int32) (o10 : Option Value) (o11 : Option Value) (o12 : Option Value)  : zeRun 191 1016 [o0, o1, o2, o3, o4, o5, o6, o7, o8, some (.int l9), o10, o11, o12] [] (zk B im lm) = if l9 = (-10000003) then zeRun 191 1023 [o0, o1, o2, o3, o4, o5, o6, o7, o8, some (.int l9), o10, o11, o12] [] (zk B im lm) else zeRun 191 1027 [o0, o1, o2, o3, o4, o5, o6, o7, o8, some (.int l9), o10, o11, o12] [] (zk B im lm) := ze_if (ok := true) rfl 3 rfl rfl
theorem d_191_1023 {B : zeB} {im : Nat → Nat → Int32} {lm : Nat → Nat → Int64} (o0 : Option Value) (o1 : Option Value) (o2 : Option Value) (o3 : Option Value) (o4 : Option Value) (o5 : Option Value) (o6 : Option Value) (o7 : Option Value) (o8 : Option Value) (o9 : Option Value) (o10 : Option Value) (o11 : Option Value) (o12 : Option Value)  : zeRun 191 1023 [o0, o1, o2, o3, o4, o5, o6, o7, o8, o9, o10, o11, o12] [] (zk B im lm) = some (some (.int 1), (zk B im lm)) := ze_ret (ok := true) rfl 3 rfl rfl
theorem d_191_1027 {B : zeB} {im : Nat → Nat → Int32} {lm : Nat → Nat → Int64} (o0 : Option Value) (o1 : Option Value) (o2 : Option Value) (o3 : Option Value) (o4 : Option Value) (o5 : Option Value) (o6 : Option Value) (o7 : Option Value) (o8 : Option Value) (o9 : Option Value) (o10 : Option Value) (o11 : Option Value) (o12 : Option Value)  : zeRun 191 1027 [o0, o1, o2, o3, o4, o5, o6, o7, o8, o9, o10, o11, o12] [] (zk B im lm) = some (some (.int 0), (zk B im lm)) := ze_ret (ok := true) rfl 3 rfl rfl
theorem d_191_1031 {B : zeB} {im : Nat → Nat → Int32} {lm : Nat → Nat → Int64} (o1 : Option Value) (o2 : Option Value) (o3 : Option Value) (o4 : Option Value) (o5 : Option Value) (o6 : Option Value) (l7 : Int32) (l8 : Int32) (l9 : Int32) (o10 : Option Value) (o11 : Option Value) (o12 : Option Value)  : zeRun 191 1031 [some (.ref 16), o1, o2, o3, o4, o5, o6, some (.int l7), some (.int l8), some (.int l9), o10, o11, o12] [] (zk B im lm) = zeBh 191 1040 [some (.ref 16), o1, o2, o3, o4, o5, o6, some (.int l7), some (.int l8), some (.int l9), o10, o11, o12] [.int l9] (zeRun 156 0 [some (.ref 16), some (.int l7), some (.int 0)] [] (zk B im lm)) := ze_call (ok := true) rfl 5 rfl rfl rfl
theorem d_191_1040 {B : zeB} {im : Nat → Nat → Int32} {lm : Nat → Nat → Int64} (o1 : Option Value) (o2 : Option Value) (o3 : Option Value) (o4 : Option Value) (o5 : Option Value) (o6 : Option Value) (l7 : Int32) (l8 : Int32) (o9 : Option Value) (o10 : Option Value) (o11 : Option Value) (o12 : Option Value) (s0 : Int32) (s1 : Int32)  : zeRun 191 1040 [some (.ref 16), o1, o2, o3, o4, o5, o6, some (.int l7), some (.int l8), o9, o10, o11, o12] [.int s1, .int s0] (zk B im lm) = if s0 = s1 then zeRun 191 1043 [some (.ref 16), o1, o2, o3, o4, o5, o6, some (.int l7), some (.int l8), o9, o10, o11, o12] [] (zk B im lm) else zeRun 191 1099 [some (.ref 16), o1, o2, o3, o4, o5, o6, some (.int l7), some (.int l8), o9, o10, o11, o12] [] (zk B im lm) := ze_if (ok := true) rfl 1 rfl rfl
theorem d_191_1043 {B : zeB} {im : Nat → Nat → Int32} {lm : Nat → Nat → Int64} (o1 : Option Value) (o2 : Option Value) (o3 : Option Value) (o4 : Option Value) (o5 : Option Value) (o6 : Option Value) (l7 : Int32) (l8 : Int32) (o9 : Option Value) (o10 : Option Value) (o11 : Option Value) (o12 : Option Value)  : zeRun 191 1043 [some (.ref 16), o1, o2, o3, o4, o5, o6, some (.int l7), some (.int l8), o9, o10, o11, o12] [] (zk B im lm) = zeBh 191 1050 [some (.ref 16), o1, o2, o3, o4, o5, o6, some (.int l7), some (.int l8), o9, o10, o11, o12] [] (zeRun 172 0 [some (.ref 16), some (.int l8), some (.int 0)] [] (zk B im lm)) := ze_call (ok := true) rfl 4 rfl rfl rfl
theorem d_191_1050 {B : zeB} {im : Nat → Nat → Int32} {lm : Nat → Nat → Int64} (o1 : Option Value) (o2 : Option Value) (o3 : Option Value) (o4 : Option Value) (o5 : Option Value) (o6 : Option Value) (l7 : Int32) (l8 : Int32) (o9 : Option Value) (o10 : Option Value) (o11 : Option Value) (o12 : Option Value) (s0 : Int32)  : zeRun 191 1050 [some (.ref 16), o1, o2, o3, o4, o5, o6, some (.int l7), some (.int l8), o9, o10, o11, o12] [.int s0] (zk B im lm) = if s0 = l7 then zeRun 191 1055 [some (.ref 16), o1, o2, o3, o4, o5, o6, some (.int l7), some (.int l8), o9, o10, o11, o12] [] (zk B im lm) else zeRun 191 1099 [some (.ref 16), o1, o2, o3, o4, o5, o6, some (.int l7), some (.int l8), o9, o10, o11, o12] [] (zk B im lm) := ze_if (ok := true) rfl 2 rfl rfl
theorem d_191_1055 {B : zeB} {im : Nat → Nat → Int32} {lm : Nat → Nat → Int64} (o1 : Option Value) (o2 : Option Value) (o3 : Option Value) (o4 : Option Value) (o5 : Option Value) (o6 : Option Value) (l7 : Int32) (l8 : Int32) (o9 : Option Value) (o10 : Option Value) (o11 : Option Value) (o12 : Option Value)  : zeRun 191 1055 [some (.ref 16), o1, o2, o3, o4, o5, o6, some (.int l7), some (.int l8), o9, o10, o11, o12] [] (zk B im lm) = zeBh 191 1062 [some (.ref 16), o1, o2, o3, o4, o5, o6, some (.int l7), some (.int l8), o9, o10, o11, o12] [] (zeRun 172 0 [some (.ref 16), some (.int l8), some (.int 1)] [] (zk B im lm)) := ze_call (ok := true) rfl 4 rfl rfl rfl
theorem d_191_1062 {B : zeB} {im : Nat → Nat → Int32} {lm : Nat → Nat → Int64} (o1 : Option Value) (o2 : Option Value) (o3 : Option Value) (o4 : Option Value) (o5 : Option Value) (o6 : Option Value) (l7 : Int32) (l8 : Int32) (o9 : Option Value) (o10 : Option Value) (o11 : Option Value) (o12 : Option Value) (s0 : Int32)  : zeRun 191 1062 [some (.ref 16), o1, o2, o3, o4, o5, o6, some (.int l7), some (.int l8), o9, o10, o11, o12] [.int s0] (zk B im lm) = if s0 = 3 then zeRun 191 1066 [some (.ref 16), o1, o2, o3, o4, o5, o6, some (.int l7), some (.int l8), o9, o10, o11, o12] [] (zk B im lm) else zeRun 191 1099 [some (.ref 16), o1, o2, o3, o4, o5, o6, some (.int l7), some (.int l8), o9, o10, o11, o12] [] (zk B im lm) := ze_if (ok := true) rfl 2 rfl rfl
theorem d_191_1066 {B : zeB} {im : Nat → Nat → Int32} {lm : Nat → Nat → Int64} (o1 : Option Value) (o2 : Option Value) (o3 : Option Value) (o4 : Option Value) (o5 : Option Value) (o6 : Option Value) (l7 : Int32) (l8 : Int32) (o9 : Option Value) (o10 : Option Value) (o11 : Option Value) (o12 : Option Value)  : zeRun 191 1066 [some (.ref 16), o1, o2, o3, o4, o5, o6, some (.int l7), some (.int l8), o9, o10, o11, o12] [] (zk B im lm) = zeBh 191 1073 [some (.ref 16), o1, o2, o3, o4, o5, o6, some (.int l7), some (.int l8), o9, o10, o11, o12] [] (zeRun 172 0 [some (.ref 16), some (.int l8), some (.int 3)] [] (zk B im lm)) := ze_call (ok := true) rfl 4 rfl rfl rfl
theorem d_191_1073 {B : zeB} {im : Nat → Nat → Int32} {lm : Nat → Nat → Int64} (o1 : Option Value) (o2 : Option Value) (o3 : Option Value) (o4 : Option Value) (o5 : Option Value) (o6 : Option Value) (l7 : Int32) (o8 : Option Value) (o9 : Option Value) (o10 : Option Value) (o11 : Option Value) (o12 : Option Value) (s0 : Int32)  : zeRun 191 1073 [some (.ref 16), o1, o2, o3, o4, o5, o6, some (.int l7), o8, o9, o10, o11, o12] [.int s0] (zk B im lm) = zeBh 191 1081 [some (.ref 16), o1, o2, o3, o4, o5, o6, some (.int l7), o8, o9, o10, o11, o12] [.int s0] (zeRun 156 0 [some (.ref 16), some (.int l7), some (.int 6)] [] (zk B im lm)) := ze_call (ok := true) rfl 4 rfl rfl rfl
theorem d_191_1081 {B : zeB} {im : Nat → Nat → Int32} {lm : Nat → Nat → Int64} (o1 : Option Value) (o2 : Option Value) (o3 : Option Value) (o4 : Option Value) (o5 : Option Value) (o6 : Option Value) (l7 : Int32) (o8 : Option Value) (o9 : Option Value) (o10 : Option Value) (o11 : Option Value) (o12 : Option Value) (s0 : Int32) (s1 : Int32)  : zeRun 191 1081 [some (.ref 16), o1, o2, o3, o4, o5, o6, some (.int l7), o8, o9, o10, o11, o12] [.int s1, .int s0] (zk B im lm) = if s0 = s1 then zeRun 191 1084 [some (.ref 16), o1, o2, o3, o4, o5, o6, some (.int l7), o8, o9, o10, o11, o12] [] (zk B im lm) else zeRun 191 1099 [some (.ref 16), o1, o2, o3, o4, o5, o6, some (.int l7), o8, o9, o10, o11, o12] [] (zk B im lm) := ze_if (ok := true) rfl 1 rfl rfl
theorem d_191_1084 {B : zeB} {im : Nat → Nat → Int32} {lm : Nat → Nat → Int64} (o1 : Option Value) (o2 : Option Value) (o3 : Option Value) (o4 : Option Value) (o5 : Option Value) (o6 : Option Value) (l7 : Int32) (o8 : Option Value) (o9 : Option Value) (o10 : Option Value) (o11 : Option Value) (o12 : Option Value)  : zeRun 191 1084 [some (.ref 16), o1, o2, o3, o4, o5, o6, some (.int l7), o8, o9, o10, o11, o12] [] (zk B im lm) = zeBh 191 1090 [some (.ref 16), o1, o2, o3, o4, o5, o6, some (.int l7), o8, o9, o10, o11, o12] [] (zeRun 177 0 [some (.ref 16), some (.int 14)] [] (zk B im lm)) := ze_call (ok := true) rfl 3 rfl rfl rfl
theorem d_191_1090 {B : zeB} {im : Nat → Nat → Int32} {lm : Nat → Nat → Int64} (o0 : Option Value) (o1 : Option Value) (o2 : Option Value) (o3 : Option Value) (o4 : Option Value) (o5 : Option Value) (o6 : Option Value) (l7 : Int32) (o8 : Option Value) (o9 : Option Value) (o10 : Option Value) (o11 : Option Value) (o12 : Option Value) (s0 : Int32)  : zeRun 191 1090 [o0, o1, o2, o3, o4, o5, o6, some (.int l7), o8, o9, o10, o11, o12] [.int s0] (zk B im lm) = if s0 = l7 then zeRun 191 1099 [o0, o1, o2, o3, o4, o5, o6, some (.int l7), o8, o9, o10, o11, o12] [] (zk B im lm) else zeRun 191 1095 [o0, o1, o2, o3, o4, o5, o6, some (.int l7), o8, o9, o10, o11, o12] [] (zk B im lm) := ze_if (ok := true) rfl 2 rfl rfl
theorem d_191_1099 {B : zeB} {im : Nat → Nat → Int32} {lm : Nat → Nat → Int64} (o0 : Option Value) (o1 : Option Value) (o2 : Option Value) (o3 : Option Value) (o4 : Option Value) (o5 : Option Value) (o6 : Option Value) (o7 : Option Value) (o8 : Option Value) (o9 : Option Value) (o10 : Option Value) (o11 : Option Value) (o12 : Option Value)  : zeRun 191 1099 [o0, o1, o2, o3, o4, o5, o6, o7, o8, o9, o10, o11, o12] [] (zk B im lm) = some (some (.int 0), (zk B im lm)) := ze_ret (ok := true) rfl 2 rfl rfl
theorem d_191_1095 {B : zeB} {im : Nat → Nat → Int32} {lm : Nat → Nat → Int64} (o0 : Option Value) (o1 : Option Value) (o2 : Option Value) (o3 : Option Value) (o4 : Option Value) (o5 : Option Value) (o6 : Option Value) (o7 : Option Value) (o8 : Option Value) (o9 : Option Value) (o10 : Option Value) (o11 : Option Value) (o12 : Option Value)  : zeRun 191 1095 [o0, o1, o2, o3, o4, o5, o6, o7, o8, o9, o10, o11, o12] [] (zk B im lm) = some (some (.int 1), (zk B im lm)) := ze_ret (ok := true) rfl 3 rfl rfl
theorem d_191_961 {B : zeB} {im : Nat → Nat → Int32} {lm : Nat → Nat → Int64} (o0 : Option Value) (o1 : Option Value) (o2 : Option Value) (o3 : Option Value) (o4 : Option Value) (o5 : Option Value) (o6 : Option Value) (o7 : Option Value) (o8 : Option Value) (o9 : Option Value) (o10 : Option Value) (o11 : Option Value) (o12 : Option Value) (s0 : Int32) (s1 : Int32)  : zeRun 191 961 [o0, o1, o2, o3, o4, o5, o6, o7, o8, o9, o10, o11, o12] [.int s1, .int s0] (zk B im lm) = if s0 = s1 then zeRun 191 964 [o0, o1, o2, o3, o4, o5, o6, o7, o8, o9, o10, o11, o12] [] (zk B im lm) else zeRun 191 968 [o0, o1, o2, o3, o4, o5, o6, o7, o8, o9, o10, o11, o12] [] (zk B im lm) := ze_if (ok := true) rfl 1 rfl rfl
theorem d_191_964 {B : zeB} {im : Nat → Nat → Int32} {lm : Nat → Nat → Int64} (o0 : Option Value) (o1 : Option Value) (o2 : Option Value) (o3 : Option Value) (o4 : Option Value) (o5 : Option Value) (o6 : Option Value) (o7 : Option Value) (o8 : Option Value) (o9 : Option Value) (o10 : Option Value) (o11 : Option Value) (o12 : Option Value)  : zeRun 191 964 [o0, o1, o2, o3, o4, o5, o6, o7, o8, o9, o10, o11, o12] [] (zk B im lm) = some (some (.int 1), (zk B im lm)) := ze_ret (ok := true) rfl 3 rfl rfl
theorem d_191_760 {B : zeB} {im : Nat → Nat → Int32} {lm : Nat → Nat → Int64} (o1 : Option Value) (o2 : Option Value) (o3 : Option Value) (o4 : Option Value) (l5 : Int32) (o6 : Option Value) (l7 : Int32) (o8 : Option Value) (o9 : Option Value) (o10 : Option Value) (o11 : Option Value) (o12 : Option Value) (s1 : Int32)  : zeRun 191 760 [some (.ref 16), o1, o2, o3, o4, some (.int l5), o6, some (.int l7), o8, o9, o10, o11, o12] [.int s1, .ref 16] (zk B im lm) = zeBh 191 763 [some (.ref 16), o1, o2, o3, o4, some (.int l5), o6, some (.int l7), o8, o9, o10, o11, o12] [] (zeRun 86 0 [some (.ref 16), some (.int s1)] [] (zk B im lm)) := ze_call (ok := true) rfl 1 rfl rfl rfl
theorem d_191_763 {B : zeB} {im : Nat → Nat → Int32} {lm : Nat → Nat → Int64} (o1 : Option Value) (o2 : Option Value) (o3 : Option Value) (o4 : Option Value) (l5 : Int32) (o6 : Option Value) (l7 : Int32) (o8 : Option Value) (o9 : Option Value) (o10 : Option Value) (o11 : Option Value) (o12 : Option Value) (s0 : Int32)  : zeRun 191 763 [some (.ref 16), o1, o2, o3, o4, some (.int l5), o6, some (.int l7), o8, o9, o10, o11, o12] [.int s0] (zk B im lm) = if l7 = 60 then zeRun 191 772 [some (.ref 16), o1, o2, o3, o4, some (.int l5), o6, some (.int l7), some (.int s0), o9, o10, o11, o12] [] (zk B im lm) else zeRun 191 798 [some (.ref 16), o1, o2, o3, o4, some (.int l5), o6, some (.int l7), some (.int s0), o9, o10, o11, o12] [] (zk B im lm) := ze_if (ok := true) rfl 4 rfl rfl
theorem d_191_772 {B : zeB} {im : Nat → Nat → Int32} {lm : Nat → Nat → Int64} (o1 : Option Value) (o2 : Option Value) (o3 : Option Value) (o4 : Option Value) (o5 : Option Value) (o6 : Option Value) (o7 : Option Value) (l8 : Int32) (o9 : Option Value) (o10 : Option Value) (o11 : Option Value) (o12 : Option Value)  : zeRun 191 772 [some (.ref 16), o1, o2, o3, o4, o5, o6, o7, some (.int l8), o9, o10, o11, o12] [] (zk B im lm) = if l8 = (-10000003) then zeRun 191 779 [some (.ref 16), o1, o2, o3, o4, o5, o6, o7, some (.int l8), o9, o10, o11, o12] [] (zk B im lm) else zeRun 191 794 [some (.ref 16), o1, o2, o3, o4, o5, o6, o7, some (.int l8), o9, o10, o11, o12] [] (zk B im lm) := ze_if (ok := true) rfl 3 rfl rfl
theorem d_191_779 {B : zeB} {im : Nat → Nat → Int32} {lm : Nat → Nat → Int64} (o1 : Option Value) (o2 : Option Value) (o3 : Option Value) (o4 : Option Value) (o5 : Option Value) (o6 : Option Value) (o7 : Option Value) (o8 : Option Value) (o9 : Option Value) (o10 : Option Value) (o11 : Option Value) (o12 : Option Value)  : zeRun 191 779 [some (.ref 16), o1, o2, o3, o4, o5, o6, o7, o8, o9, o10, o11, o12] [] (zk B im lm) = zeBh 191 785 [some (.ref 16), o1, o2, o3, o4, o5, o6, o7, o8, o9, o10, o11, o12] [] (zeRun 177 0 [some (.ref 16), some (.int 11)] [] (zk B im lm)) := ze_call (ok := true) rfl 3 rfl rfl rfl
theorem d_191_785 {B : zeB} {im : Nat → Nat → Int32} {lm : Nat → Nat → Int64} (o0 : Option Value) (o1 : Option Value) (o2 : Option Value) (o3 : Option Value) (o4 : Option Value) (o5 : Option Value) (o6 : Option Value) (o7 : Option Value) (o8 : Option Value) (o9 : Option Value) (o10 : Option Value) (o11 : Option Value) (o12 : Option Value) (s0 : Int32)  : zeRun 191 785 [o0, o1, o2, o3, o4, o5, o6, o7, o8, o9, o10, o11, o12] [.int s0] (zk B im lm) = if s0 = 7 then zeRun 191 790 [o0, o1, o2, o3, o4, o5, o6, o7, o8, o9, o10, o11, o12] [] (zk B im lm) else zeRun 191 794 [o0, o1, o2, o3, o4, o5, o6, o7, o8, o9, o10, o11, o12] [] (zk B im lm) := ze_if (ok := true) rfl 2 rfl rfl
theorem d_191_790 {B : zeB} {im : Nat → Nat → Int32} {lm : Nat → Nat → Int64} (o0 : Option Value) (o1 : Option Value) (o2 : Option Value) (o3 : Option Value) (o4 : Option Value) (o5 : Option Value) (o6 : Option Value) (o7 : Option Value) (o8 : Option Value) (o9 : Option Value) (o10 : Option Value) (o11 : Option Value) (o12 : Option Value)  : zeRun 191 790 [o0, o1, o2, o3, o4, o5, o6, o7, o8, o9, o10, o11, o12] [] (zk B im lm) = some (some (.int 1), (zk B im lm)) := ze_ret (ok := true) rfl 3 rfl rfl
theorem d_191_794 {B : zeB} {im : Nat → Nat → Int32} {lm : Nat → Nat → Int64} (o0 : Option Value) (o1 : Option Value) (o2 : Option Value) (o3 : Option Value) (o4 : Option Value) (o5 : Option Value) (o6 : Option Value) (o7 : Option Value) (o8 : Option Value) (o9 : Option Value) (o10 : Option Value) (o11 : Option Value) (o12 : Option Value)  : zeRun 191 794 [o0, o1, o2, o3, o4, o5, o6, o7, o8, o9, o10, o11, o12] [] (zk B im lm) = some (some (.int 0), (zk B im lm)) := ze_ret (ok := true) rfl 3 rfl rfl
theorem d_191_798 {B : zeB} {im : Nat → Nat → Int32} {lm : Nat → Nat → Int64} (o1 : Option Value) (o2 : Option Value) (o3 : Option Value) (o4 : Option Value) (l5 : Int32) (o6 : Option Value) (l7 : Int32) (l8 : Int32) (o9 : Option Value) (o10 : Option Value) (o11 : Option Value) (o12 : Option Value)  : zeRun 191 798 [some (.ref 16), o1, o2, o3, o4, some (.int l5), o6, some (.int l7), some (.int l8), o9, o10, o11, o12] [] (zk B im lm) = zeBh 191 807 [some (.ref 16), o1, o2, o3, o4, some (.int l5), o6, some (.int l7), some (.int l8), o9, o10, o11, o12] [.int l8] (zeRun 156 0 [some (.ref 16), some (.int l5), some (.int 0)] [] (zk B im lm)) := ze_call (ok := true) rfl 5 rfl rfl rfl
theorem d_191_807 {B : zeB} {im : Nat → Nat → Int32} {lm : Nat → Nat → Int64} (o1 : Option Value) (o2 : Option Value) (o3 : Option Value) (o4 : Option Value) (l5 : Int32) (o6 : Option Value) (l7 : Int32) (o8 : Option Value) (o9 : Option Value) (o10 : Option Value) (o11 : Option Value) (o12 : Option Value) (s0 : Int32) (s1 : Int32)  : zeRun 191 807 [some (.ref 16), o1, o2, o3, o4, some (.int l5), o6, some (.int l7), o8, o9, o10, o11, o12] [.int s1, .int s0] (zk B im lm) = if s0 = s1 then zeRun 191 810 [some (.ref 16), o1, o2, o3, o4, some (.int l5), o6, some (.int l7), o8, o9, o10, o11, o12] [] (zk B im lm) else zeRun 191 845 [some (.ref 16), o1, o2, o3, o4, some (.int l5), o6, some (.int l7), o8, o9, o10, o11, o12] [] (zk B im lm) := ze_if (ok := true) rfl 1 rfl rfl
theorem d_191_810 {B : zeB} {im : Nat → Nat → Int32} {lm : Nat → Nat → Int64} (o1 : Option Value) (o2 : Option Value) (o3 : Option Value) (o4 : Option Value) (l5 : Int32) (o6 : Option Value) (l7 : Int32) (o8 : Option Value) (o9 : Option Value) (o10 : Option Value) (o11 : Option Value) (o12 : Option Value)  : zeRun 191 810 [some (.ref 16), o1, o2, o3, o4, some (.int l5), o6, some (.int l7), o8, o9, o10, o11, o12] [] (zk B im lm) = zeBh 191 817 [some (.ref 16), o1, o2, o3, o4, some (.int l5), o6, some (.int l7), o8, o9, o10, o11, o12] [] (zeRun 172 0 [some (.ref 16), some (.int l7), some (.int 0)] [] (zk B im lm)) := ze_call (ok := true) rfl 4 rfl rfl rfl
theorem d_191_817 {B : zeB} {im : Nat → Nat → Int32} {lm : Nat → Nat → Int64} (o1 : Option Value) (o2 : Option Value) (o3 : Option Value) (o4 : Option Value) (l5 : Int32) (o6 : Option Value) (l7 : Int32) (o8 : Option Value) (o9 : Option Value) (o10 : Option Value) (o11 : Option Value) (o12 : Option Value) (s0 : Int32)  : zeRun 191 817 [some (.ref 16), o1, o2, o3, o4, some (.int l5), o6, some (.int l7), o8, o9, o10, o11, o12] [.int s0] (zk B im lm) = if s0 = l5 then zeRun 191 822 [some (.ref 16), o1, o2, o3, o4, some (.int l5), o6, some (.int l7), o8, o9, o10, o11, o12] [] (zk B im lm) else zeRun 191 845 [some (.ref 16), o1, o2, o3, o4, some (.int l5), o6, some (.int l7), o8, o9, o10, o11, o12] [] (zk B im lm) := ze_if (ok := true) rfl 2 rfl rfl
theorem d_191_822 {B : zeB} {im : Nat → Nat → Int32} {lm : Nat → Nat → Int64} (o1 : Option Value) (o2 : Option Value) (o3 : Option Value) (o4 : Option Value) (o5 : Option Value) (o6 : Option Value) (l7 : Int32) (o8 : Option Value) (o9 : Option Value) (o10 : Option Value) (o11 : Option Value) (o12 : Option Value)  : zeRun 191 822 [some (.ref 16), o1, o2, o3, o4, o5, o6, some (.int l7), o8, o9, o10, o11, o12] [] (zk B im lm) = zeBh 191 829 [some (.ref 16), o1, o2, o3, o4, o5, o6, some (.int l7), o8, o9, o10, o11, o12] [] (zeRun 172 0 [some (.ref 16), some (.int l7), some (.int 1)] [] (zk B im lm)) := ze_call (ok := true) rfl 4 rfl rfl rfl
theorem d_191_829 {B : zeB} {im : Nat → Nat → Int32} {lm : Nat → Nat → Int64} (o1 : Option Value) (o2 : Option Value) (o3 : Option Value) (o4 : Option Value) (o5 : Option Value) (o6 : Option Value) (o7 : Option Value) (o8 : Option Value) (o9 : Option Value) (o10 : Option Value) (o11 : Option Value) (o12 : Option Value) (s0 : Int32)  : zeRun 191 829 [some (.ref 16), o1, o2, o3, o4, o5, o6, o7, o8, o9, o10, o11, o12] [.int s0] (zk B im lm) = if s0 = 2 then zeRun 191 833 [some (.ref 16), o1, o2, o3, o4, o5, o6, o7, o8, o9, o10, o11, o12] [] (zk B im lm) else zeRun 191 845 [some (.ref 16), o1, o2, o3, o4, o5, o6, o7, o8, o9, o10, o11, o12] [] (zk B im lm) := ze_if (ok := true) rfl 2 rfl rfl
theorem d_191_833 {B : zeB} {im : Nat → Nat → Int32} {lm : Nat → Nat → Int64} (o1 : Option Value) (o2 : Option Value) (o3 : Option Value) (o4 : Option Value) (o5 : Option Value) (o6 : Option Value) (o7 : Option Value) (o8 : Option Value) (o9 : Option Value) (o10 : Option Value) (o11 : Option Value) (o12 : Option Value)  : zeRun 191 833 [some (.ref 16), o1, o2, o3, o4, o5, o6, o7, o8, o9, o10, o11, o12] [] (zk B im lm) = zeBh 191 838 [some (.ref 16), o1, o2, o3, o4, o5, o6, o7, o8, o9, o10, o11, o12] [] (zeRun 177 0 [some (.ref 16), some (.int 0)] [] (zk B im lm)) := ze_call (ok := true) rfl 3 rfl rfl rfl
theorem d_191_838 {B : zeB} {im : Nat → Nat → Int32} {lm : Nat → Nat → Int64} (o0 : Option Value) (o1 : Option Value) (o2 : Option Value) (o3 : Option Value) (o4 : Option Value) (o5 : Option Value) (o6 : Option Value) (o7 : Option Value) (o8 : Option Value) (o9 : Option Value) (o10 : Option Value) (o11 : Option Value) (o12 : Option Value) (s0 : Int32)  : zeRun 191 838 [o0, o1, o2, o3, o4, o5, o6, o7, o8, o9, o10, o11, o12] [.int s0] (zk B im lm) = if s0 = 0 then zeRun 191 841 [o0, o1, o2, o3, o4, o5, o6, o7, o8, o9, o10, o11, o12] [] (zk B im lm) else zeRun 191 845 [o0, o1, o2, o3, o4, o5, o6, o7, o8, o9, o10, o11, o12] [] (zk B im lm) := ze_if (ok := true) rfl 1 rfl rfl
theorem d_191_841 {B : zeB} {im : Nat → Nat → Int32} {lm : Nat → Nat → Int64} (o0 : Option Value) (o1 : Option Value) (o2 : Option Value) (o3 : Option Value) (o4 : Option Value) (o5 : Option Value) (o6 : Option Value) (o7 : Option Value) (o8 : Option Value) (o9 : Option Value) (o10 : Option Value) (o11 : Option Value) (o12 : Option Value)  : zeRun 191 841 [o0, o1, o2, o3, o4, o5, o6, o7, o8, o9, o10, o11, o12] [] (zk B im lm) = some (some (.int 1), (zk B im lm)) := ze_ret (ok := true) rfl 3 rfl rfl
theorem d_191_845 {B : zeB} {im : Nat → Nat → Int32} {lm : Nat → Nat → Int64} (o0 : Option Value) (o1 : Option Value) (o2 : Option Value) (o3 : Option Value) (o4 : Option Value) (o5 : Option Value) (o6 : Option Value) (o7 : Option Value) (o8 : Option Value) (o9 : Option Value) (o10 : Option Value) (o11 : Option Value) (o12 : Option Value)  : zeRun 191 845 [o0, o1, o2, o3, o4, o5, o6, o7, o8, o9, o10, o11, o12] [] (zk B im lm) = some (some (.int 0), (zk B im lm)) := ze_ret (ok := true) rfl 2 rfl rfl
theorem d_191_651 {B : zeB} {im : Nat → Nat → Int32} {lm : Nat → Nat → Int64} (o1 : Option Value) (l2 : Int32) (o3 : Option Value) (o4 : Option Value) (o5 : Option Value) (o6 : Option Value) (o7 : Option Value) (o8 : Option Value) (o9 : Option Value) (o10 : Option Value) (o11 : Option Value) (o12 : Option Value) (s0 : Int32)  : zeRun 191 651 [some (.ref 16), o1, some (.int l2), o3, o4, o5, o6, o7, o8, o9, o10, o11, o12] [.int s0] (zk B im lm) = zeBh 191 660 [some (.ref 16), o1, some (.int l2), o3, o4, o5, o6, some (.int s0), o8, o9, o10, o11, o12] [] (zeRun 189 0 [some (.int l2), some (.int 1500)] [] (zk B im lm)) := ze_call (ok := true) rfl 4 rfl rfl rfl
theorem d_191_660 {B : zeB} {im : Nat → Nat → Int32} {lm : Nat → Nat → Int64} (o1 : Option Value) (o2 : Option Value) (o3 : Option Value) (o4 : Option Value) (o5 : Option Value) (o6 : Option Value) (l7 : Int32) (o8 : Option Value) (o9 : Option Value) (o10 : Option Value) (o11 : Option Value) (o12 : Option Value) (s0 : Int32)  : zeRun 191 660 [some (.ref 16), o1, o2, o3, o4, o5, o6, some (.int l7), o8, o9, o10, o11, o12] [.int s0] (zk B im lm) = zeBh 191 668 [some (.ref 16), o1, o2, o3, o4, o5, o6, some (.int l7), some (.int s0), o9, o10, o11, o12] [] (zeRun 98 0 [some (.ref 16), some (.int s0)] [] (zk B im lm)) := ze_call (ok := true) rfl 4 rfl rfl rfl
theorem d_191_668 {B : zeB} {im : Nat → Nat → Int32} {lm : Nat → Nat → Int64} (o1 : Option Value) (o2 : Option Value) (o3 : Option Value) (o4 : Option Value) (o5 : Option Value) (o6 : Option Value) (l7 : Int32) (l8 : Int32) (o9 : Option Value) (o10 : Option Value) (o11 : Option Value) (o12 : Option Value) (s0 : Int32)  : zeRun 191 668 [some (.ref 16), o1, o2, o3, o4, o5, o6, some (.int l7), some (.int l8), o9, o10, o11, o12] [.int s0] (zk B im lm) = if l8 ≤ l7 then zeRun 191 702 [some (.ref 16), o1, o2, o3, o4, o5, o6, some (.int l7), some (.int l8), some (.int s0), o10, o11, o12] [] (zk B im lm) else zeRun 191 677 [some (.ref 16), o1, o2, o3, o4, o5, o6, some (.int l7), some (.int l8), some (.int s0), o10, o11, o12] [] (zk B im lm) := ze_if (ok := true) rfl 4 rfl rfl
theorem d_191_702 {B : zeB} {im : Nat → Nat → Int32} {lm : Nat → Nat → Int64} (o1 : Option Value) (o2 : Option Value) (o3 : Option Value) (o4 : Option Value) (o5 : Option Value) (o6 : Option Value) (l7 : Int32) (o8 : Option Value) (l9 : Int32) (o10 : Option Value) (o11 : Option Value) (o12 : Option Value)  : zeRun 191 702 [some (.ref 16), o1, o2, o3, o4, o5, o6, some (.int l7), o8, some (.int l9), o10, o11, o12] [] (zk B im lm) = if l9 = l7 then zeRun 191 709 [some (.ref 16), o1, o2, o3, o4, o5, o6, some (.int l7), o8, some (.int l9), o10, o11, o12] [] (zk B im lm) else zeRun 191 732 [some (.ref 16), o1, o2, o3, o4, o5, o6, some (.int l7), o8, some (.int l9), o10, o11, o12] [] (zk B im lm) := ze_if (ok := true) rfl 3 rfl rfl
theorem d_191_709 {B : zeB} {im : Nat → Nat → Int32} {lm : Nat → Nat → Int64} (o1 : Option Value) (o2 : Option Value) (o3 : Option Value) (o4 : Option Value) (o5 : Option Value) (o6 : Option Value) (o7 : Option Value) (o8 : Option Value) (o9 : Option Value) (o10 : Option Value) (o11 : Option Value) (o12 : Option Value)  : zeRun 191 709 [some (.ref 16), o1, o2, o3, o4, o5, o6, o7, o8, o9, o10, o11, o12] [] (zk B im lm) = zeBh 191 714 [some (.ref 16), o1, o2, o3, o4, o5, o6, o7, o8, o9, o10, o11, o12] [] (zeRun 177 0 [some (.ref 16), some (.int 0)] [] (zk B im lm)) := ze_call (ok := true) rfl 3 rfl rfl rfl
theorem d_191_714 {B : zeB} {im : Nat → Nat → Int32} {lm : Nat → Nat → Int64} (o1 : Option Value) (o2 : Option Value) (o3 : Option Value) (o4 : Option Value) (o5 : Option Value) (o6 : Option Value) (o7 : Option Value) (o8 : Option Value) (o9 : Option Value) (o10 : Option Value) (o11 : Option Value) (o12 : Option Value) (s0 : Int32)  : zeRun 191 714 [some (.ref 16), o1, o2, o3, o4, o5, o6, o7, o8, o9, o10, o11, o12] [.int s0] (zk B im lm) = if s0 = 3 then zeRun 191 718 [some (.ref 16), o1, o2, o3, o4, o5, o6, o7, o8, o9, o10, o11, o12] [] (zk B im lm) else zeRun 191 732 [some (.ref 16), o1, o2, o3, o4, o5, o6, o7, o8, o9, o10, o11, o12] [] (zk B im lm) := ze_if (ok := true) rfl 2 rfl rfl
theorem d_191_718 {B : zeB} {im : Nat → Nat → Int32} {lm : Nat → Nat → Int64} (o1 : Option Value) (o2 : Option Value) (o3 : Option Value) (o4 : Option Value) (o5 : Option Value) (o6 : Option Value) (o7 : Option Value) (o8 : Option Value) (o9 : Option Value) (o10 : Option Value) (o11 : Option Value) (o12 : Option Value)  : zeRun 191 718 [some (.ref 16), o1, o2, o3, o4, o5, o6, o7, o8, o9, o10, o11, o12] [] (zk B im lm) = zeBh 191 723 [some (.ref 16), o1, o2, o3, o4, o5, o6, o7, o8, o9, o10, o11, o12] [] (zeRun 98 0 [some (.ref 16), some (.int 0)] [] (zk B im lm)) := ze_call (ok := true) rfl 3 rfl rfl rfl
theorem d_191_723 {B : zeB} {im : Nat → Nat → Int32} {lm : Nat → Nat → Int64} (o0 : Option Value) (o1 : Option Value) (o2 : Option Value) (o3 : Option Value) (o4 : Option Value) (o5 : Option Value) (o6 : Option Value) (o7 : Option Value) (o8 : Option Value) (o9 : Option Value) (o10 : Option Value) (o11 : Option Value) (o12 : Option Value) (s0 : Int32)  : zeRun 191 723 [o0, o1, o2, o3, o4, o5, o6, o7, o8, o9, o10, o11, o12] [.int s0] (zk B im lm) = if s0 = (-10000003) then zeRun 191 728 [o0, o1, o2, o3, o4, o5, o6, o7, o8, o9, o10, o11, o12] [] (zk B im lm) else zeRun 191 732 [o0, o1, o2, o3, o4, o5, o6, o7, o8, o9, o10, o11, o12] [] (zk B im lm) := ze_if (ok := true) rfl 2 rfl rfl
theorem d_191_728 {B : zeB} {im : Nat → Nat → Int32} {lm : Nat → Nat → Int64} (o0 : Option Value) (o1 : Option Value) (o2 : Option Value) (o3 : Option Value) (o4 : Option Value) (o5 : Option Value) (o6 : Option Value) (o7 : Option Value) (o8 : Option Value) (o9 : Option Value) (o10 : Option Value) (o11 : Option Value) (o12 : Option Value)  : zeRun 191 728 [o0, o1, o2, o3, o4, o5, o6, o7, o8, o9, o10, o11, o12] [] (zk B im lm) = some (some (.int 1), (zk B im lm)) := ze_ret (ok := true) rfl 3 rfl rfl
theorem d_191_732 {B : zeB} {im : Nat → Nat → Int32} {lm : Nat → Nat → Int64} (o0 : Option Value) (o1 : Option Value) (o2 : Option Value) (o3 : Option Value) (o4 : Option Value) (o5 : Option Value) (o6 : Option Value) (o7 : Option Value) (o8 : Option Value) (o9 : Option Value) (o10 : Option Value) (o11 : Option Value) (o12 : Option Value)  : zeRun 191 732 [o0, o1, o2, o3, o4, o5, o6, o7, o8, o9, o10, o11, o12] [] (zk B im lm) = some (some (.int 0), (zk B im lm)) := ze_ret (ok := true) rfl 2 rfl rfl
theorem d_191_677 {B : zeB} {im : Nat → Nat → Int32} {lm : Nat → Nat → Int64} (o1 : Option Value) (o2 : Option Value) (o3 : Option Value) (o4 : Option Value) (o5 : Option Value) (o6 : Option Value) (o7 : Option Value) (o8 : Option Value) (l9 : Int32) (o10 : Option Value) (o11 : Option Value) (o12 : Option Value)  : zeRun 191 677 [some (.ref 16), o1, o2, o3, o4, o5, o6, o7, o8, some (.int l9), o10, o11, o12] [] (zk B im lm) = if l9 = (-10000003) then zeRun 191 684 [some (.ref 16), o1, o2, o3, o4, o5, o6, o7, o8, some (.int l9), o10, o11, o12] [] (zk B im lm) else zeRun 191 698 [some (.ref 16), o1, o2, o3, o4, o5, o6, o7, o8, some (.int l9), o10, o11, o12] [] (zk B im lm) := ze_if (ok := true) rfl 3 rfl rfl
theorem d_191_684 {B : zeB} {im : Nat → Nat → Int32} {lm : Nat → Nat → Int64} (o1 : Option Value) (o2 : Option Value) (o3 : Option Value) (o4 : Option Value) (o5 : Option Value) (o6 : Option Value) (o7 : Option Value) (o8 : Option Value) (o9 : Option Value) (o10 : Option Value) (o11 : Option Value) (o12 : Option Value)  : zeRun 191 684 [some (.ref 16), o1, o2, o3, o4, o5, o6, o7, o8, o9, o10, o11, o12] [] (zk B im lm) = zeBh 191 690 [some (.ref 16), o1, o2, o3, o4, o5, o6, o7, o8, o9, o10, o11, o12] [] (zeRun 177 0 [some (.ref 16), some (.int 11)] [] (zk B im lm)) := ze_call (ok := true) rfl 3 rfl rfl rfl
theorem d_191_690 {B : zeB} {im : Nat → Nat → Int32} {lm : Nat → Nat → Int64} (o0 : Option Value) (o1 : Option Value) (o2 : Option Value) (o3 : Option Value) (o4 : Option Value) (o5 : Option Value) (o6 : Option Value) (o7 : Option Value) (o8 : Option Value) (o9 : Option Value) (o10 : Option Value) (o11 : Option Value) (o12 : Option Value) (s0 : Int32)  : zeRun 191 690 [o0, o1, o2, o3, o4, o5, o6, o7, o8, o9, o10, o11, o12] [.int s0] (zk B im lm) = if s0 = 5 then zeRun 191 694 [o0, o1, o2, o3, o4, o5, o6, o7, o8, o9, o10, o11, o12] [] (zk B im lm) else zeRun 191 698 [o0, o1, o2, o3, o4, o5, o6, o7, o8, o9, o10, o11, o12] [] (zk B im lm) := ze_if (ok := true) rfl 2 rfl rfl
theorem d_191_694 {B : zeB} {im : Nat → Nat → Int32} {lm : Nat → Nat → Int64} (o0 : Option Value) (o1 : Option Value) (o2 : Option Value) (o3 : Option Value) (o4 : Option Value) (o5 : Option Value) (o6 : Option Value) (o7 : Option Value) (o8 : Option Value) (o9 : Option Value) (o10 : Option Value) (o11 : Option Value) (o12 : Option Value)  : zeRun 191 694 [o0, o1, o2, o3, o4, o5, o6, o7, o8, o9, o10, o11, o12] [] (zk B im lm) = some (some (.int 1), (zk B im lm)) := ze_ret (ok := true) rfl 3 rfl rfl
theorem d_191_698 {B : zeB} {im : Nat → Nat → Int32} {lm : Nat → Nat → Int64} (o0 : Option Value) (o1 : Option Value) (o2 : Option Value) (o3 : Option Value) (o4 : Option Value) (o5 : Option Value) (o6 : Option Value) (o7 : Option Value) (o8 : Option Value) (o9 : Option Value) (o10 : Option Value) (o11 : Option Value) (o12 : Option Value)  : zeRun 191 698 [o0, o1, o2, o3, o4, o5, o6, o7, o8, o9, o10, o11, o12] [] (zk B im lm) = some (some (.int 0), (zk B im lm)) := ze_ret (ok := true) rfl 3 rfl rfl
theorem d_191_216 {B : zeB} {im : Nat → Nat → Int32} {lm : Nat → Nat → Int64} (o1 : Option Value) (l2 : Int32) (o3 : Option Value) (o4 : Option Value) (o5 : Option Value) (l6 : Int32) (o7 : Option Value) (o8 : Option Value) (o9 : Option Value) (o10 : Option Value) (o11 : Option Value) (o12 : Option Value)  : zeRun 191 216 [some (.ref 16), o1, some (.int l2), o3, o4, o5, some (.int l6), o7, o8, o9, o10, o11, o12] [] (zk B im lm) = if (l2 &&& 64) = 0 then zeRun 191 226 [some (.ref 16), o1, some (.int l2), o3, o4, o5, some (.int l6), o7, o8, o9, o10, o11, o12] [.int (l2 >>> (2 &&& 31))] (zk B im lm) else zeRun 191 231 [some (.ref 16), o1, some (.int l2), o3, o4, o5, some (.int l6), o7, o8, o9, o10, o11, o12] [.int (l2 >>> (2 &&& 31))] (zk B im lm) := ze_if (ok := true) rfl 7 rfl rfl
theorem d_191_226 {B : zeB} {im : Nat → Nat → Int32} {lm : Nat → Nat → Int64} (o1 : Option Value) (o2 : Option Value) (o3 : Option Value) (o4 : Option Value) (o5 : Option Value) (l6 : Int32) (o7 : Option Value) (o8 : Option Value) (o9 : Option Value) (o10 : Option Value) (o11 : Option Value) (o12 : Option Value) (s0 : Int32)  : zeRun 191 226 [some (.ref 16), o1, o2, o3, o4, o5, some (.int l6), o7, o8, o9, o10, o11, o12] [.int s0] (zk B im lm) = zeRun 191 233 [some (.ref 16), o1, o2, o3, o4, o5, some (.int l6), o7, o8, o9, o10, o11, o12] [.int 30, .int s0] (zk B im lm) := ze_go (ok := true) rfl 2 rfl rfl
theorem d_191_231 {B : zeB} {im : Nat → Nat → Int32} {lm : Nat → Nat → Int64} (o1 : Option Value) (o2 : Option Value) (o3 : Option Value) (o4 : Option Value) (o5 : Option Value) (l6 : Int32) (o7 : Option Value) (o8 : Option Value) (o9 : Option Value) (o10 : Option Value) (o11 : Option Value) (o12 : Option Value) (s0 : Int32)  : zeRun 191 231 [some (.ref 16), o1, o2, o3, o4, o5, some (.int l6), o7, o8, o9, o10, o11, o12] [.int s0] (zk B im lm) = zeRun 191 233 [some (.ref 16), o1, o2, o3, o4, o5, some (.int l6), o7, o8, o9, o10, o11, o12] [.int 100, .int s0] (zk B im lm) := ze_go (ok := true) rfl 1 rfl rfl
theorem d_191_233 {B : zeB} {im : Nat → Nat → Int32} {lm : Nat → Nat → Int64} (o1 : Option Value) (o2 : Option Value) (o3 : Option Value) (o4 : Option Value) (o5 : Option Value) (l6 : Int32) (o7 : Option Value) (o8 : Option Value) (o9 : Option Value) (o10 : Option Value) (o11 : Option Value) (o12 : Option Value) (s0 : Int32) (s1 : Int32)  : zeRun 191 233 [some (.ref 16), o1, o2, o3, o4, o5, some (.int l6), o7, o8, o9, o10, o11, o12] [.int s1, .int s0] (zk B im lm) = zeBh 191 236 [some (.ref 16), o1, o2, o3, o4, o5, some (.int l6), o7, o8, o9, o10, o11, o12] [] (zeRun 189 0 [some (.int s0), some (.int s1)] [] (zk B im lm)) := ze_call (ok := true) rfl 1 rfl rfl rfl
theorem d_191_236 {B : zeB} {im : Nat → Nat → Int32} {lm : Nat → Nat → Int64} (o1 : Option Value) (o2 : Option Value) (o3 : Option Value) (o4 : Option Value) (o5 : Option Value) (l6 : Int32) (o7 : Option Value) (o8 : Option Value) (o9 : Option Value) (o10 : Option Value) (o11 : Option Value) (o12 : Option Value) (s0 : Int32)  : zeRun 191 236 [some (.ref 16), o1, o2, o3, o4, o5, some (.int l6), o7, o8, o9, o10, o11, o12] [.int s0] (zk B im lm) = zeBh 191 246 [some (.ref 16), o1, o2, o3, o4, o5, some (.int l6), some (.int s0), o8, o9, o10, o11, o12] [] (zeRun 59 0 [some (.ref 16), some (.int l6), some (.int s0)] [] (zk B im lm)) := ze_call (ok := true) rfl 5 rfl rfl rfl
theorem d_191_246 {B : zeB} {im : Nat → Nat → Int32} {lm : Nat → Nat → Int64} (o1 : Option Value) (o2 : Option Value) (o3 : Option Value) (o4 : Option Value) (o5 : Option Value) (l6 : Int32) (l7 : Int32) (o8 : Option Value) (o9 : Option Value) (o10 : Option Value) (o11 : Option Value) (o12 : Option Value) (s0 : Int32)  : zeRun 191 246 [some (.ref 16), o1, o2, o3, o4, o5, some (.int l6), some (.int l7), o8, o9, o10, o11, o12] [.int s0] (zk B im lm) = zeRun 191 251 [some (.ref 16), o1, o2, o3, o4, o5, some (.int l6), some (.int l7), some (.int s0), some (.int 0), o10, o11, o12] [] (zk B im lm) := ze_go (ok := true) rfl 3 rfl rfl
theorem d_191_251 {B : zeB} {im : Nat → Nat → Int32} {lm : Nat → Nat → Int64} (o1 : Option Value) (o2 : Option Value) (o3 : Option Value) (o4 : Option Value) (o5 : Option Value) (l6 : Int32) (l7 : Int32) (l8 : Int32) (l9 : Int32) (o10 : Option Value) (o11 : Option Value) (o12 : Option Value)  : zeRun 191 251 [some (.ref 16), o1, o2, o3, o4, o5, some (.int l6), some (.int l7), some (.int l8), some (.int l9), o10, o11, o12] [] (zk B im lm) = zeBh 191 257 [some (.ref 16), o1, o2, o3, o4, o5, some (.int l6), some (.int l7), some (.int l8), some (.int l9), o10, o11, o12] [] (zeRun 166 0 [some (.ref 16), some (.int l9)] [] (zk B im lm)) := ze_call (ok := true) rfl 3 rfl rfl rfl
theorem d_191_257 {B : zeB} {im : Nat → Nat → Int32} {lm : Nat → Nat → Int64} (o1 : Option Value) (o2 : Option Value) (o3 : Option Value) (o4 : Option Value) (o5 : Option Value) (l6 : Int32) (l7 : Int32) (l8 : Int32) (l9 : Int32) (o10 : Option Value) (o11 : Option Value) (o12 : Option Value) (s0 : Int32)  : zeRun 191 257 [some (.ref 16), o1, o2, o3, o4, o5, some (.int l6), some (.int l7), some (.int l8), some (.int l9), o10, o11, o12] [.int s0] (zk B im lm) = if s0 < 0 then zeRun 191 351 [some (.ref 16), o1, o2, o3, o4, o5, some (.int l6), some (.int l7), some (.int l8), some (.int l9), o10, o11, o12] [] (zk B im lm) else zeRun 191 260 [some (.ref 16), o1, o2, o3, o4, o5, some (.int l6), some (.int l7), some (.int l8), some (.int l9), o10, o11, o12] [] (zk B im lm) := ze_if (ok := true) rfl 1 rfl rfl
theorem d_191_351 {B : zeB} {im : Nat → Nat → Int32} {lm : Nat → Nat → Int64} (o1 : Option Value) (o2 : Option Value) (o3 : Option Value) (o4 : Option Value) (o5 : Option Value) (l6 : Int32) (l7 : Int32) (l8 : Int32) (l9 : Int32) (o10 : Option Value) (o11 : Option Value) (o12 : Option Value)  : zeRun 191 351 [some (.ref 16), o1, o2, o3, o4, o5, some (.int l6), some (.int l7), some (.int l8), some (.int l9), o10, o11, o12] [] (zk B im lm) = if l8 = (-10000005) then zeRun 191 360 [some (.ref 16), o1, o2, o3, o4, o5, some (.int l6), some (.int l7), some (.int l8), some (.int l9), o10, o11, o12] [.int l8] (zk B im lm) else zeRun 191 365 [some (.ref 16), o1, o2, o3, o4, o5, some (.int l6), some (.int l7), some (.int l8), some (.int l9), o10, o11, o12] [.int l8] (zk B im lm) := ze_if (ok := true) rfl 4 rfl rfl
theorem d_191_360 {B : zeB} {im : Nat → Nat → Int32} {lm : Nat → Nat → Int64} (o1 : Option Value) (o2 : Option Value) (o3 : Option Value) (o4 : Option Value) (o5 : Option Value) (l6 : Int32) (l7 : Int32) (l8 : Int32) (o9 : Option Value) (o10 : Option Value) (o11 : Option Value) (o12 : Option Value) (s0 : Int32)  : zeRun 191 360 [some (.ref 16), o1, o2, o3, o4, o5, some (.int l6), some (.int l7), some (.int l8), o9, o10, o11, o12] [.int s0] (zk B im lm) = zeRun 191 367 [some (.ref 16), o1, o2, o3, o4, o5, some (.int l6), some (.int l7), some (.int l8), o9, o10, o11, o12] [.int l8, .int s0] (zk B im lm) := ze_go (ok := true) rfl 2 rfl rfl
theorem d_191_365 {B : zeB} {im : Nat → Nat → Int32} {lm : Nat → Nat → Int64} (o1 : Option Value) (o2 : Option Value) (o3 : Option Value) (o4 : Option Value) (o5 : Option Value) (l6 : Int32) (l7 : Int32) (o8 : Option Value) (l9 : Int32) (o10 : Option Value) (o11 : Option Value) (o12 : Option Value) (s0 : Int32)  : zeRun 191 365 [some (.ref 16), o1, o2, o3, o4, o5, some (.int l6), some (.int l7), o8, some (.int l9), o10, o11, o12] [.int s0] (zk B im lm) = zeRun 191 367 [some (.ref 16), o1, o2, o3, o4, o5, some (.int l6), some (.int l7), o8, some (.int l9), o10, o11, o12] [.int l9, .int s0] (zk B im lm) := ze_go (ok := true) rfl 1 rfl rfl
theorem d_191_260 {B : zeB} {im : Nat → Nat → Int32} {lm : Nat → Nat → Int64} (o1 : Option Value) (o2 : Option Value) (o3 : Option Value) (o4 : Option Value) (o5 : Option Value) (l6 : Int32) (l7 : Int32) (l8 : Int32) (l9 : Int32) (o10 : Option Value) (o11 : Option Value) (o12 : Option Value)  : zeRun 191 260 [some (.ref 16), o1, o2, o3, o4, o5, some (.int l6), some (.int l7), some (.int l8), some (.int l9), o10, o11, o12] [] (zk B im lm) = zeBh 191 266 [some (.ref 16), o1, o2, o3, o4, o5, some (.int l6), some (.int l7), some (.int l8), some (.int l9), o10, o11, o12] [] (zeRun 166 0 [some (.ref 16), some (.int l9)] [] (zk B im lm)) := ze_call (ok := true) rfl 3 rfl rfl rfl
theorem d_191_266 {B : zeB} {im : Nat → Nat → Int32} {lm : Nat → Nat → Int64} (o1 : Option Value) (o2 : Option Value) (o3 : Option Value) (o4 : Option Value) (o5 : Option Value) (l6 : Int32) (l7 : Int32) (l8 : Int32) (l9 : Int32) (o10 : Option Value) (o11 : Option Value) (o12 : Option Value) (s0 : Int32)  : zeRun 191 266 [some (.ref 16), o1, o2, o3, o4, o5, some (.int l6), some (.int l7), some (.int l8), some (.int l9), o10, o11, o12] [.int s0] (zk B im lm) = zeBh 191 275 [some (.ref 16), o1, o2, o3, o4, o5, some (.int l6), some (.int l7), some (.int l8), some (.int l9), some (.int s0), o11, o12] [] (zeRun 156 0 [some (.ref 16), some (.int s0), some (.int 5)] [] (zk B im lm)) := ze_call (ok := true) rfl 5 rfl rfl rfl
theorem d_191_275 {B : zeB} {im : Nat → Nat → Int32} {lm : Nat → Nat → Int64} (o1 : Option Value) (o2 : Option Value) (o3 : Option Value) (o4 : Option Value) (o5 : Option Value) (l6 : Int32) (l7 : Int32) (l8 : Int32) (l9 : Int32) (l10 : Int32) (o11 : Option Value) (o12 : Option Value) (s0 : Int32)  : zeRun 191 275 [some (.ref 16), o1, o2, o3, o4, o5, some (.int l6), some (.int l7), some (.int l8), some (.int l9), some (.int l10), o11, o12] [.int s0] (zk B im lm) = if l9 = 0 then zeRun 191 282 [some (.ref 16), o1, o2, o3, o4, o5, some (.int l6), some (.int l7), some (.int l8), some (.int l9), some (.int l10), some (.int s0), o12] [] (zk B im lm) else zeRun 191 286 [some (.ref 16), o1, o2, o3, o4, o5, some (.int l6), some (.int l7), some (.int l8), some (.int l9), some (.int l10), some (.int s0), o12] [] (zk B im lm) := ze_if (ok := true) rfl 3 rfl rfl
theorem d_191_282 {B : zeB} {im : Nat → Nat → Int32} {lm : Nat → Nat → Int64} (o1 : Option Value) (o2 : Option Value) (o3 : Option Value) (o4 : Option Value) (o5 : Option Value) (l6 : Int32) (l7 : Int32) (l8 : Int32) (l9 : Int32) (l10 : Int32) (l11 : Int32) (o12 : Option Value)  : zeRun 191 282 [some (.ref 16), o1, o2, o3, o4, o5, some (.int l6), some (.int l7), some (.int l8), some (.int l9), some (.int l10), some (.int l11), o12] [] (zk B im lm) = zeRun 191 299 [some (.ref 16), o1, o2, o3, o4, o5, some (.int l6), some (.int l7), some (.int l8), some (.int l9), some (.int l10), some (.int l11), o12] [.int (-1)] (zk B im lm) := ze_go (ok := true) rfl 2 rfl rfl
theorem d_191_286 {B : zeB} {im : Nat → Nat → Int32} {lm : Nat → Nat → Int64} (o1 : Option Value) (o2 : Option Value) (o3 : Option Value) (o4 : Option Value) (o5 : Option Value) (l6 : Int32) (l7 : Int32) (l8 : Int32) (l9 : Int32) (l10 : Int32) (l11 : Int32) (o12 : Option Value)  : zeRun 191 286 [some (.ref 16), o1, o2, o3, o4, o5, some (.int l6), some (.int l7), some (.int l8), some (.int l9), some (.int l10), some (.int l11), o12] [] (zk B im lm) = zeBh 191 295 [some (.ref 16), o1, o2, o3, o4, o5, some (.int l6), some (.int l7), some (.int l8), some (.int l9), some (.int l10), some (.int l11), o12] [.ref 16] (zeRun 166 0 [some (.ref 16), some (.int (l9 - 1))] [] (zk B im lm)) := ze_call (ok := true) rfl 6 rfl rfl rfl
theorem d_191_295 {B : zeB} {im : Nat → Nat → Int32} {lm : Nat → Nat → Int64} (o1 : Option Value) (o2 : Option Value) (o3 : Option Value) (o4 : Option Value) (o5 : Option Value) (l6 : Int32) (l7 : Int32) (l8 : Int32) (l9 : Int32) (l10 : Int32) (l11 : Int32) (o12 : Option Value) (s1 : Int32)  : zeRun 191 295 [some (.ref 16), o1, o2, o3, o4, o5, some (.int l6), some (.int l7), some (.int l8), some (.int l9), some (.int l10), some (.int l11), o12] [.int s1, .ref 16] (zk B im lm) = zeBh 191 299 [some (.ref 16), o1, o2, o3, o4, o5, some (.int l6), some (.int l7), some (.int l8), some (.int l9), some (.int l10), some (.int l11), o12] [] (zeRun 156 0 [some (.ref 16), some (.int s1), some (.int 5)] [] (zk B im lm)) := ze_call (ok := true) rfl 2 rfl rfl rfl
theorem d_191_299 {B : zeB} {im : Nat → Nat → Int32} {lm : Nat → Nat → Int64} (o1 : Option Value) (o2 : Option Value) (o3 : Option Value) (o4 : Option Value) (o5 : Option Value) (l6 : Int32) (l7 : Int32) (l8 : Int32) (l9 : Int32) (l10 : Int32) (l11 : Int32) (o12 : Option Value) (s0 : Int32)  : zeRun 191 299 [some (.ref 16), o1, o2, o3, o4, o5, some (.int l6), some (.int l7), some (.int l8), some (.int l9), some (.int l10), some (.int l11), o12] [.int s0] (zk B im lm) = if l11 < 0 then zeRun 191 343 [some (.ref 16), o1, o2, o3, o4, o5, some (.int l6), some (.int l7), some (.int l8), some (.int l9), some (.int l10), some (.int l11), some (.int s0)] [] (zk B im lm) else zeRun 191 306 [some (.ref 16), o1, o2, o3, o4, o5, some (.int l6), some (.int l7), some (.int l8), some (.int l9), some (.int l10), some (.int l11), some (.int s0)] [] (zk B im lm) := ze_if (ok := true) rfl 3 rfl rfl
theorem d_191_343 {B : zeB} {im : Nat → Nat → Int32} {lm : Nat → Nat → Int64} (o0 : Option Value) (o1 : Option Value) (o2 : Option Value) (o3 : Option Value) (o4 : Option Value) (o5 : Option Value) (o6 : Option Value) (o7 : Option Value) (o8 : Option Value) (o9 : Option Value) (o10 : Option Value) (o11 : Option Value) (o12 : Option Value)  : zeRun 191 343 [o0, o1, o2, o3, o4, o5, o6, o7, o8, o9, o10, o11, o12] [] (zk B im lm) = some (some (.int 0), (zk B im lm)) := ze_ret (ok := true) rfl 2 rfl rfl
theorem d_191_306 {B : zeB} {im : Nat → Nat → Int32} {lm : Nat → Nat → Int64} (o1 : Option Value) (o2 : Option Value) (o3 : Option Value) (o4 : Option Value) (o5 : Option Value) (l6 : Int32) (l7 : Int32) (l8 : Int32) (l9 : Int32) (l10 : Int32) (l11 : Int32) (l12 : Int32)  : zeRun 191 306 [some (.ref 16), o1, o2, o3, o4, o5, some (.int l6), some (.int l7), some (.int l8), some (.int l9), some (.int l10), some (.int l11), some (.int l12)] [] (zk B im lm) = if l11 < l12 then zeRun 191 343 [some (.ref 16), o1, o2, o3, o4, o5, some (.int l6), some (.int l7), some (.int l8), some (.int l9), some (.int l10), some (.int l11), some (.int l12)] [] (zk B im lm) else zeRun 191 313 [some (.ref 16), o1, o2, o3, o4, o5, some (.int l6), some (.int l7), some (.int l8), some (.int l9), some (.int l10), some (.int l11), some (.int l12)] [] (zk B im lm) := ze_if (ok := true) rfl 3 rfl rfl
theorem d_191_313 {B : zeB} {im : Nat → Nat → Int32} {lm : Nat → Nat → Int64} (o1 : Option Value) (o2 : Option Value) (o3 : Option Value) (o4 : Option Value) (o5 : Option Value) (l6 : Int32) (l7 : Int32) (l8 : Int32) (l9 : Int32) (l10 : Int32) (l11 : Int32) (l12 : Int32)  : zeRun 191 313 [some (.ref 16), o1, o2, o3, o4, o5, some (.int l6), some (.int l7), some (.int l8), some (.int l9), some (.int l10), some (.int l11), some (.int l12)] [] (zk B im lm) = if l11 = l12 then zeRun 191 320 [some (.ref 16), o1, o2, o3, o4, o5, some (.int l6), some (.int l7), some (.int l8), some (.int l9), some (.int l10), some (.int l11), some (.int l12)] [] (zk B im lm) else zeRun 191 345 [some (.ref 16), o1, o2, o3, o4, o5, some (.int l6), some (.int l7), some (.int l8), some (.int l9), some (.int l10), some (.int l11), some (.int l12)] [] (zk B im lm) := ze_if (ok := true) rfl 3 rfl rfl
theorem d_191_320 {B : zeB} {im : Nat → Nat → Int32} {lm : Nat → Nat → Int64} (o1 : Option Value) (o2 : Option Value) (o3 : Option Value) (o4 : Option Value) (o5 : Option Value) (l6 : Int32) (l7 : Int32) (l8 : Int32) (l9 : Int32) (l10 : Int32) (o11 : Option Value) (o12 : Option Value)  : zeRun 191 320 [some (.ref 16), o1, o2, o3, o4, o5, some (.int l6), some (.int l7), some (.int l8), some (.int l9), some (.int l10), o11, o12] [] (zk B im lm) = zeBh 191 329 [some (.ref 16), o1, o2, o3, o4, o5, some (.int l6), some (.int l7), some (.int l8), some (.int l9), some (.int l10), o11, o12] [.ref 16] (zeRun 166 0 [some (.ref 16), some (.int (l9 - 1))] [] (zk B im lm)) := ze_call (ok := true) rfl 6 rfl rfl rfl
theorem d_191_329 {B : zeB} {im : Nat → Nat → Int32} {lm : Nat → Nat → Int64} (o1 : Option Value) (o2 : Option Value) (o3 : Option Value) (o4 : Option Value) (o5 : Option Value) (l6 : Int32) (l7 : Int32) (l8 : Int32) (l9 : Int32) (l10 : Int32) (o11 : Option Value) (o12 : Option Value) (s1 : Int32)  : zeRun 191 329 [some (.ref 16), o1, o2, o3, o4, o5, some (.int l6), some (.int l7), some (.int l8), some (.int l9), some (.int l10), o11, o12] [.int s1, .ref 16] (zk B im lm) = zeBh 191 333 [some (.ref 16), o1, o2, o3, o4, o5, some (.int l6), some (.int l7), some (.int l8), some (.int l9), some (.int l10), o11, o12] [] (zeRun 156 0 [some (.ref 16), some (.int s1), some (.int 0)] [] (zk B im lm)) := ze_call (ok := true) rfl 2 rfl rfl rfl
theorem d_191_333 {B : zeB} {im : Nat → Nat → Int32} {lm : Nat → Nat → Int64} (o1 : Option Value) (o2 : Option Value) (o3 : Option Value) (o4 : Option Value) (o5 : Option Value) (l6 : Int32) (l7 : Int32) (l8 : Int32) (l9 : Int32) (l10 : Int32) (o11 : Option Value) (o12 : Option Value) (s0 : Int32)  : zeRun 191 333 [some (.ref 16), o1, o2, o3, o4, o5, some (.int l6), some (.int l7), some (.int l8), some (.int l9), some (.int l10), o11, o12] [.int s0] (zk B im lm) = zeBh 191 340 [some (.ref 16), o1, o2, o3, o4, o5, some (.int l6), some (.int l7), some (.int l8), some (.int l9), some (.int l10), o11, o12] [.int s0] (zeRun 156 0 [some (.ref 16), some (.int l10), some (.int 0)] [] (zk B im lm)) := ze_call (ok := true) rfl 4 rfl rfl rfl
theorem d_191_340 {B : zeB} {im : Nat → Nat → Int32} {lm : Nat → Nat → Int64} (o1 : Option Value) (o2 : Option Value) (o3 : Option Value) (o4 : Option Value) (o5 : Option Value) (l6 : Int32) (l7 : Int32) (l8 : Int32) (l9 : Int32) (o10 : Option Value) (o11 : Option Value) (o12 : Option Value) (s0 : Int32) (s1 : Int32)  : zeRun 191 340 [some (.ref 16), o1, o2, o3, o4, o5, some (.int l6), some (.int l7), some (.int l8), some (.int l9), o10, o11, o12] [.int s1, .int s0] (zk B im lm) = if s0 ≤ s1 then zeRun 191 345 [some (.ref 16), o1, o2, o3, o4, o5, some (.int l6), some (.int l7), some (.int l8), some (.int l9), o10, o11, o12] [] (zk B im lm) else zeRun 191 343 [some (.ref 16), o1, o2, o3, o4, o5, some (.int l6), some (.int l7), some (.int l8), some (.int l9), o10, o11, o12] [] (zk B im lm) := ze_if (ok := true) rfl 1 rfl rfl
theorem d_191_345 {B : zeB} {im : Nat → Nat → Int32} {lm : Nat → Nat → Int64} (o1 : Option Value) (o2 : Option Value) (o3 : Option Value) (o4 : Option Value) (o5 : Option Value) (l6 : Int32) (l7 : Int32) (l8 : Int32) (l9 : Int32) (o10 : Option Value) (o11 : Option Value) (o12 : Option Value)  : zeRun 191 345 [some (.ref 16), o1, o2, o3, o4, o5, some (.int l6), some (.int l7), some (.int l8), some (.int l9), o10, o11, o12] [] (zk B im lm) = zeRun 191 251 [some (.ref 16), o1, o2, o3, o4, o5, some (.int l6), some (.int l7), some (.int l8), some (.int (l9 + 1)), o10, o11, o12] [] (zk B im lm) := ze_go (ok := true) rfl 2 rfl rfl
theorem d_191_367 {B : zeB} {im : Nat → Nat → Int32} {lm : Nat → Nat → Int64} (o1 : Option Value) (o2 : Option Value) (o3 : Option Value) (o4 : Option Value) (o5 : Option Value) (l6 : Int32) (l7 : Int32) (o8 : Option Value) (o9 : Option Value) (o10 : Option Value) (o11 : Option Value) (o12 : Option Value) (s0 : Int32) (s1 : Int32)  : zeRun 191 367 [some (.ref 16), o1, o2, o3, o4, o5, some (.int l6), some (.int l7), o8, o9, o10, o11, o12] [.int s1, .int s0] (zk B im lm) = if s0 = s1 then zeRun 191 370 [some (.ref 16), o1, o2, o3, o4, o5, some (.int l6), some (.int l7), o8, o9, o10, o11, o12] [] (zk B im lm) else zeRun 191 400 [some (.ref 16), o1, o2, o3, o4, o5, some (.int l6), some (.int l7), o8, o9, o10, o11, o12] [] (zk B im lm) := ze_if (ok := true) rfl 1 rfl rfl
theorem d_191_370 {B : zeB} {im : Nat → Nat → Int32} {lm : Nat → Nat → Int64} (o1 : Option Value) (o2 : Option Value) (o3 : Option Value) (o4 : Option Value) (o5 : Option Value) (l6 : Int32) (l7 : Int32) (o8 : Option Value) (o9 : Option Value) (o10 : Option Value) (o11 : Option Value) (o12 : Option Value)  : zeRun 191 370 [some (.ref 16), o1, o2, o3, o4, o5, some (.int l6), some (.int l7), o8, o9, o10, o11, o12] [] (zk B im lm) = zeBh 191 378 [some (.ref 16), o1, o2, o3, o4, o5, some (.int l6), some (.int l7), o8, o9, o10, o11, o12] [] (zeRun 59 0 [some (.ref 16), some (.int l6), some (.int l7)] [] (zk B im lm)) := ze_call (ok := true) rfl 4 rfl rfl rfl
theorem d_191_378 {B : zeB} {im : Nat → Nat → Int32} {lm : Nat → Nat → Int64} (o1 : Option Value) (o2 : Option Value) (o3 : Option Value) (o4 : Option Value) (o5 : Option Value) (l6 : Int32) (o7 : Option Value) (o8 : Option Value) (o9 : Option Value) (o10 : Option Value) (o11 : Option Value) (o12 : Option Value) (s0 : Int32)  : zeRun 191 378 [some (.ref 16), o1, o2, o3, o4, o5, some (.int l6), o7, o8, o9, o10, o11, o12] [.int s0] (zk B im lm) = if s0 = (-10000005) then zeRun 191 383 [some (.ref 16), o1, o2, o3, o4, o5, some (.int l6), o7, o8, o9, o10, o11, o12] [] (zk B im lm) else zeRun 191 400 [some (.ref 16), o1, o2, o3, o4, o5, some (.int l6), o7, o8, o9, o10, o11, o12] [] (zk B im lm) := ze_if (ok := true) rfl 2 rfl rfl
theorem d_191_383 {B : zeB} {im : Nat → Nat → Int32} {lm : Nat → Nat → Int64} (o1 : Option Value) (o2 : Option Value) (o3 : Option Value) (o4 : Option Value) (o5 : Option Value) (l6 : Int32) (o7 : Option Value) (o8 : Option Value) (o9 : Option Value) (o10 : Option Value) (o11 : Option Value) (o12 : Option Value)  : zeRun 191 383 [some (.ref 16), o1, o2, o3, o4, o5, some (.int l6), o7, o8, o9, o10, o11, o12] [] (zk B im lm) = zeBh 191 391 [some (.ref 16), o1, o2, o3, o4, o5, some (.int l6), o7, o8, o9, o10, o11, o12] [] (zeRun 59 0 [some (.ref 16), some (.int l6), some (.int 100)] [] (zk B im lm)) := ze_call (ok := true) rfl 4 rfl rfl rfl
theorem d_191_391 {B : zeB} {im : Nat → Nat → Int32} {lm : Nat → Nat → Int64} (o0 : Option Value) (o1 : Option Value) (o2 : Option Value) (o3 : Option Value) (o4 : Option Value) (o5 : Option Value) (o6 : Option Value) (o7 : Option Value) (o8 : Option Value) (o9 : Option Value) (o10 : Option Value) (o11 : Option Value) (o12 : Option Value) (s0 : Int32)  : zeRun 191 391 [o0, o1, o2, o3, o4, o5, o6, o7, o8, o9, o10, o11, o12] [.int s0] (zk B im lm) = if s0 = (-10000002) then zeRun 191 396 [o0, o1, o2, o3, o4, o5, o6, o7, o8, o9, o10, o11, o12] [] (zk B im lm) else zeRun 191 400 [o0, o1, o2, o3, o4, o5, o6, o7, o8, o9, o10, o11, o12] [] (zk B im lm) := ze_if (ok := true) rfl 2 rfl rfl
theorem d_191_396 {B : zeB} {im : Nat → Nat → Int32} {lm : Nat → Nat → Int64} (o0 : Option Value) (o1 : Option Value) (o2 : Option Value) (o3 : Option Value) (o4 : Option Value) (o5 : Option Value) (o6 : Option Value) (o7 : Option Value) (o8 : Option Value) (o9 : Option Value) (o10 : Option Value) (o11 : Option Value) (o12 : Option Value)  : zeRun 191 396 [o0, o1, o2, o3, o4, o5, o6, o7, o8, o9, o10, o11, o12] [] (zk B im lm) = some (some (.int 1), (zk B im lm)) := ze_ret (ok := true) rfl 3 rfl rfl
theorem d_191_400 {B : zeB} {im : Nat → Nat → Int32} {lm : Nat → Nat → Int64} (o0 : Option Value) (o1 : Option Value) (o2 : Option Value) (o3 : Option Value) (o4 : Option Value) (o5 : Option Value) (o6 : Option Value) (o7 : Option Value) (o8 : Option Value) (o9 : Option Value) (o10 : Option Value) (o11 : Option Value) (o12 : Option Value)  : zeRun 191 400 [o0, o1, o2, o3, o4, o5, o6, o7, o8, o9, o10, o11, o12] [] (zk B im lm) = some (some (.int 0), (zk B im lm)) := ze_ret (ok := true) rfl 2 rfl rfl
theorem d_191_402 {B : zeB} {im : Nat → Nat → Int32} {lm : Nat → Nat → Int64} (l1 : Int32) (l2 : Int32) (o3 : Option Value) (o4 : Option Value) (o5 : Option Value) (o6 : Option Value) (o7 : Option Value) (o8 : Option Value) (o9 : Option Value) (o10 : Option Value) (o11 : Option Value) (o12 : Option Value)  : zeRun 191 402 [some (.ref 16), some (.int l1), some (.int l2), o3, o4, o5, o6, o7, o8, o9, o10, o11, o12] [] (zk B im lm) = zeBh 191 407 [some (.ref 16), some (.int l1), some (.int l2), o3, o4, o5, o6, o7, o8, o9, o10, o11, o12] [] (zeRun 177 0 [some (.ref 16), some (.int 3)] [] (zk B im lm)) := ze_call (ok := true) rfl 3 rfl rfl rfl
theorem d_191_407 {B : zeB} {im : Nat → Nat → Int32} {lm : Nat → Nat → Int64} (l1 : Int32) (l2 : Int32) (o3 : Option Value) (o4 : Option Value) (o5 : Option Value) (o6 : Option Value) (o7 : Option Value) (o8 : Option Value) (o9 : Option Value) (o10 : Option Value) (o11 : Option Value) (o12 : Option Value) (s0 : Int32)  : zeRun 191 407 [some (.ref 16), some (.int l1), some (.int l2), o3, o4, o5, o6, o7, o8, o9, o10, o11, o12] [.int s0] (zk B im lm) = zeBh 191 416 [some (.ref 16), some (.int l1), some (.int l2), o3, o4, o5, o6, some (.int s0), o8, o9, o10, o11, o12] [] (zeRun 169 0 [some (.ref 16), some (.int s0), some (.int 3)] [] (zk B im lm)) := ze_call (ok := true) rfl 5 rfl rfl rfl
theorem d_191_416 {B : zeB} {im : Nat → Nat → Int32} {lm : Nat → Nat → Int64} (l1 : Int32) (l2 : Int32) (o3 : Option Value) (o4 : Option Value) (o5 : Option Value) (o6 : Option Value) (o7 : Option Value) (o8 : Option Value) (o9 : Option Value) (o10 : Option Value) (o11 : Option Value) (o12 : Option Value) (s0 : Int32)  : zeRun 191 416 [some (.ref 16), some (.int l1), some (.int l2), o3, o4, o5, o6, o7, o8, o9, o10, o11, o12] [.int s0] (zk B im lm) = if (l2 &&& 16) = 0 then zeRun 191 425 [some (.ref 16), some (.int l1), some (.int l2), o3, o4, o5, o6, o7, some (.int s0), o9, o10, o11, o12] [] (zk B im lm) else zeRun 191 455 [some (.ref 16), some (.int l1), some (.int l2), o3, o4, o5, o6, o7, some (.int s0), o9, o10, o11, o12] [] (zk B im lm) := ze_if (ok := true) rfl 5 rfl rfl
theorem d_191_425 {B : zeB} {im : Nat → Nat → Int32} {lm : Nat → Nat → Int64} (l1 : Int32) (l2 : Int32) (o3 : Option Value) (o4 : Option Value) (o5 : Option Value) (o6 : Option Value) (o7 : Option Value) (l8 : Int32) (o9 : Option Value) (o10 : Option Value) (o11 : Option Value) (o12 : Option Value)  : zeRun 191 425 [some (.ref 16), some (.int l1), some (.int l2), o3, o4, o5, o6, o7, some (.int l8), o9, o10, o11, o12] [] (zk B im lm) = if (l2 &&& 32) = 0 then zeRun 191 432 [some (.ref 16), some (.int l1), some (.int l2), o3, o4, o5, o6, o7, some (.int l8), o9, o10, o11, o12] [] (zk B im lm) else zeRun 191 455 [some (.ref 16), some (.int l1), some (.int l2), o3, o4, o5, o6, o7, some (.int l8), o9, o10, o11, o12] [] (zk B im lm) := ze_if (ok := true) rfl 4 rfl rfl
theorem d_191_432 {B : zeB} {im : Nat → Nat → Int32} {lm : Nat → Nat → Int64} (o1 : Option Value) (o2 : Option Value) (o3 : Option Value) (o4 : Option Value) (o5 : Option Value) (o6 : Option Value) (o7 : Option Value) (l8 : Int32) (o9 : Option Value) (o10 : Option Value) (o11 : Option Value) (o12 : Option Value)  : zeRun 191 432 [some (.ref 16), o1, o2, o3, o4, o5, o6, o7, some (.int l8), o9, o10, o11, o12] [] (zk B im lm) = zeBh 191 436 [some (.ref 16), o1, o2, o3, o4, o5, o6, o7, some (.int l8), o9, o10, o11, o12] [] (zeRun 93 0 [some (.ref 16)] [] (zk B im lm)) := ze_call (ok := true) rfl 2 rfl rfl rfl
theorem d_191_436 {B : zeB} {im : Nat → Nat → Int32} {lm : Nat → Nat → Int64} (o1 : Option Value) (o2 : Option Value) (o3 : Option Value) (o4 : Option Value) (o5 : Option Value) (o6 : Option Value) (o7 : Option Value) (l8 : Int32) (o9 : Option Value) (o10 : Option Value) (o11 : Option Value) (o12 : Option Value) (s0 : Int32)  : zeRun 191 436 [some (.ref 16), o1, o2, o3, o4, o5, o6, o7, some (.int l8), o9, o10, o11, o12] [.int s0] (zk B im lm) = if s0 = l8 then zeRun 191 441 [some (.ref 16), o1, o2, o3, o4, o5, o6, o7, some (.int l8), o9, o10, o11, o12] [] (zk B im lm) else zeRun 191 453 [some (.ref 16), o1, o2, o3, o4, o5, o6, o7, some (.int l8), o9, o10, o11, o12] [] (zk B im lm) := ze_if (ok := true) rfl 2 rfl rfl
theorem d_191_441 {B : zeB} {im : Nat → Nat → Int32} {lm : Nat → Nat → Int64} (o1 : Option Value) (o2 : Option Value) (o3 : Option Value) (o4 : Option Value) (o5 : Option Value) (o6 : Option Value) (o7 : Option Value) (o8 : Option Value) (o9 : Option Value) (o10 : Option Value) (o11 : Option Value) (o12 : Option Value)  : zeRun 191 441 [some (.ref 16), o1, o2, o3, o4, o5, o6, o7, o8, o9, o10, o11, o12] [] (zk B im lm) = zeBh 191 446 [some (.ref 16), o1, o2, o3, o4, o5, o6, o7, o8, o9, o10, o11, o12] [] (zeRun 177 0 [some (.ref 16), some (.int 0)] [] (zk B im lm)) := ze_call (ok := true) rfl 3 rfl rfl rfl
theorem d_191_446 {B : zeB} {im : Nat → Nat → Int32} {lm : Nat → Nat → Int64} (o0 : Option Value) (o1 : Option Value) (o2 : Option Value) (o3 : Option Value) (o4 : Option Value) (o5 : Option Value) (o6 : Option Value) (o7 : Option Value) (o8 : Option Value) (o9 : Option Value) (o10 : Option Value) (o11 : Option Value) (o12 : Option Value) (s0 : Int32)  : zeRun 191 446 [o0, o1, o2, o3, o4, o5, o6, o7, o8, o9, o10, o11, o12] [.int s0] (zk B im lm) = if s0 = 0 then zeRun 191 449 [o0, o1, o2, o3, o4, o5, o6, o7, o8, o9, o10, o11, o12] [] (zk B im lm) else zeRun 191 453 [o0, o1, o2, o3, o4, o5, o6, o7, o8, o9, o10, o11, o12] [] (zk B im lm) := ze_if (ok := true) rfl 1 rfl rfl
theorem d_191_449 {B : zeB} {im : Nat → Nat → Int32} {lm : Nat → Nat → Int64} (o0 : Option Value) (o1 : Option Value) (o2 : Option Value) (o3 : Option Value) (o4 : Option Value) (o5 : Option Value) (o6 : Option Value) (o7 : Option Value) (o8 : Option Value) (o9 : Option Value) (o10 : Option Value) (o11 : Option Value) (o12 : Option Value)  : zeRun 191 449 [o0, o1, o2, o3, o4, o5, o6, o7, o8, o9, o10, o11, o12] [] (zk B im lm) = some (some (.int 1), (zk B im lm)) := ze_ret (ok := true) rfl 3 rfl rfl
theorem d_191_453 {B : zeB} {im : Nat → Nat → Int32} {lm : Nat → Nat → Int64} (o0 : Option Value) (o1 : Option Value) (o2 : Option Value) (o3 : Option Value) (o4 : Option Value) (o5 : Option Value) (o6 : Option Value) (o7 : Option Value) (o8 : Option Value) (o9 : Option Value) (o10 : Option Value) (o11 : Option Value) (o12 : Option Value)  : zeRun 191 453 [o0, o1, o2, o3, o4, o5, o6, o7, o8, o9, o10, o11, o12] [] (zk B im lm) = some (some (.int 0), (zk B im lm)) := ze_ret (ok := true) rfl 2 rfl rfl
theorem d_191_455 {B : zeB} {im : Nat → Nat → Int32} {lm : Nat → Nat → Int64} (l1 : Int32) (o2 : Option Value) (o3 : Option Value) (o4 : Option Value) (o5 : Option Value) (o6 : Option Value) (o7 : Option Value) (l8 : Int32) (o9 : Option Value) (o10 : Option Value) (o11 : Option Value) (o12 : Option Value)  : zeRun 191 455 [some (.ref 16), some (.int l1), o2, o3, o4, o5, o6, o7, some (.int l8), o9, o10, o11, o12] [] (zk B im lm) = zeBh 191 460 [some (.ref 16), some (.int l1), o2, o3, o4, o5, o6, o7, some (.int l8), o9, o10, o11, o12] [] (zeRun 166 0 [some (.ref 16), some (.int 0)] [] (zk B im lm)) := ze_call (ok := true) rfl 3 rfl rfl rfl
theorem d_191_460 {B : zeB} {im : Nat → Nat → Int32} {lm : Nat → Nat → Int64} (l1 : Int32) (o2 : Option Value) (o3 : Option Value) (o4 : Option Value) (o5 : Option Value) (o6 : Option Value) (o7 : Option Value) (l8 : Int32) (o9 : Option Value) (o10 : Option Value) (o11 : Option Value) (o12 : Option Value) (s0 : Int32)  : zeRun 191 460 [some (.ref 16), some (.int l1), o2, o3, o4, o5, o6, o7, some (.int l8), o9, o10, o11, o12] [.int s0] (zk B im lm) = zeBh 191 467 [some (.ref 16), some (.int l1), o2, o3, o4, o5, o6, o7, some (.int l8), some (.int s0), o10, o11, o12] [] (zeRun 177 0 [some (.ref 16), some (.int 5)] [] (zk B im lm)) := ze_call (ok := true) rfl 4 rfl rfl rfl
theorem d_191_467 {B : zeB} {im : Nat → Nat → Int32} {lm : Nat → Nat → Int64} (l1 : Int32) (o2 : Option Value) (o3 : Option Value) (o4 : Option Value) (o5 : Option Value) (o6 : Option Value) (o7 : Option Value) (l8 : Int32) (l9 : Int32) (o10 : Option Value) (o11 : Option Value) (o12 : Option Value) (s0 : Int32)  : zeRun 191 467 [some (.ref 16), some (.int l1), o2, o3, o4, o5, o6, o7, some (.int l8), some (.int l9), o10, o11, o12] [.int s0] (zk B im lm) = if (l1 &&& 64) = 0 then zeRun 191 476 [some (.ref 16), some (.int l1), o2, o3, o4, o5, o6, o7, some (.int l8), some (.int l9), some (.int s0), o11, o12] [] (zk B im lm) else zeRun 191 480 [some (.ref 16), some (.int l1), o2, o3, o4, o5, o6, o7, some (.int l8), some (.int l9), some (.int s0), o11, o12] [] (zk B im lm) := ze_if (ok := true) rfl 5 rfl rfl
theorem d_191_476 {B : zeB} {im : Nat → Nat → Int32} {lm : Nat → Nat → Int64} (o1 : Option Value) (o2 : Option Value) (o3 : Option Value) (o4 : Option Value) (o5 : Option Value) (o6 : Option Value) (o7 : Option Value) (l8 : Int32) (l9 : Int32) (l10 : Int32) (o11 : Option Value) (o12 : Option Value)  : zeRun 191 476 [some (.ref 16), o1, o2, o3, o4, o5, o6, o7, some (.int l8), some (.int l9), some (.int l10), o11, o12] [] (zk B im lm) = zeRun 191 481 [some (.ref 16), o1, o2, o3, o4, o5, o6, o7, some (.int l8), some (.int l9), some (.int l10), o11, o12] [.int 1] (zk B im lm) := ze_go (ok := true) rfl 2 rfl rfl
theorem d_191_480 {B : zeB} {im : Nat → Nat → Int32} {lm : Nat → Nat → Int64} (o1 : Option Value) (o2 : Option Value) (o3 : Option Value) (o4 : Option Value) (o5 : Option Value) (o6 : Option Value) (o7 : Option Value) (l8 : Int32) (l9 : Int32) (l10 : Int32) (o11 : Option Value) (o12 : Option Value)  : zeRun 191 480 [some (.ref 16), o1, o2, o3, o4, o5, o6, o7, some (.int l8), some (.int l9), some (.int l10), o11, o12] [] (zk B im lm) = zeRun 191 481 [some (.ref 16), o1, o2, o3, o4, o5, o6, o7, some (.int l8), some (.int l9), some (.int l10), o11, o12] [.int 0] (zk B im lm) := ze_go (ok := true) rfl 1 rfl rfl
theorem d_191_481 {B : zeB} {im : Nat → Nat → Int32} {lm : Nat → Nat → Int64} (o1 : Option Value) (o2 : Option Value) (o3 : Option Value) (o4 : Option Value) (o5 : Option Value) (o6 : Option Value) (o7 : Option Value) (l8 : Int32) (l9 : Int32) (l10 : Int32) (o11 : Option Value) (o12 : Option Value) (s0 : Int32)  : zeRun 191 481 [some (.ref 16), o1, o2, o3, o4, o5, o6, o7, some (.int l8), some (.int l9), some (.int l10), o11, o12] [.int s0] (zk B im lm) = zeBh 191 489 [some (.ref 16), o1, o2, o3, o4, o5, o6, o7, some (.int l8), some (.int l9), some (.int l10), some (.int s0), o12] [] (zeRun 86 0 [some (.ref 16), some (.int s0)] [] (zk B im lm)) := ze_call (ok := true) rfl 4 rfl rfl rfl
theorem d_191_489 {B : zeB} {im : Nat → Nat → Int32} {lm : Nat → Nat → Int64} (o1 : Option Value) (o2 : Option Value) (o3 : Option Value) (o4 : Option Value) (o5 : Option Value) (o6 : Option Value) (o7 : Option Value) (l8 : Int32) (l9 : Int32) (l10 : Int32) (l11 : Int32) (o12 : Option Value) (s0 : Int32)  : zeRun 191 489 [some (.ref 16), o1, o2, o3, o4, o5, o6, o7, some (.int l8), some (.int l9), some (.int l10), some (.int l11), o12] [.int s0] (zk B im lm) = if l9 < 0 then zeRun 191 503 [some (.ref 16), o1, o2, o3, o4, o5, o6, o7, some (.int l8), some (.int l9), some (.int l10), some (.int l11), some (.int s0)] [] (zk B im lm) else zeRun 191 496 [some (.ref 16), o1, o2, o3, o4, o5, o6, o7, some (.int l8), some (.int l9), some (.int l10), some (.int l11), some (.int s0)] [] (zk B im lm) := ze_if (ok := true) rfl 3 rfl rfl
theorem d_191_496 {B : zeB} {im : Nat → Nat → Int32} {lm : Nat → Nat → Int64} (o1 : Option Value) (o2 : Option Value) (o3 : Option Value) (o4 : Option Value) (o5 : Option Value) (o6 : Option Value) (o7 : Option Value) (l8 : Int32) (l9 : Int32) (l10 : Int32) (l11 : Int32) (l12 : Int32)  : zeRun 191 496 [some (.ref 16), o1, o2, o3, o4, o5, o6, o7, some (.int l8), some (.int l9), some (.int l10), some (.int l11), some (.int l12)] [] (zk B im lm) = if l10 = 60 then zeRun 191 503 [some (.ref 16), o1, o2, o3, o4, o5, o6, o7, some (.int l8), some (.int l9), some (.int l10), some (.int l11), some (.int l12)] [] (zk B im lm) else zeRun 191 536 [some (.ref 16), o1, o2, o3, o4, o5, o6, o7, some (.int l8), some (.int l9), some (.int l10), some (.int l11), some (.int l12)] [] (zk B im lm) := ze_if (ok := true) rfl 3 rfl rfl
theorem d_191_536 {B : zeB} {im : Nat → Nat → Int32} {lm : Nat → Nat → Int64} (o1 : Option Value) (o2 : Option Value) (o3 : Option Value) (o4 : Option Value) (o5 : Option Value) (o6 : Option Value) (o7 : Option Value) (l8 : Int32) (l9 : Int32) (l10 : Int32) (l11 : Int32) (l12 : Int32)  : zeRun 191 536 [some (.ref 16), o1, o2, o3, o4, o5, o6, o7, some (.int l8), some (.int l9), some (.int l10), some (.int l11), some (.int l12)] [] (zk B im lm) = zeBh 191 545 [some (.ref 16), o1, o2, o3, o4, o5, o6, o7, some (.int l8), some (.int l9), some (.int l10), some (.int l11), some (.int l12)] [.int l12] (zeRun 156 0 [some (.ref 16), some (.int l9), some (.int 0)] [] (zk B im lm)) := ze_call (ok := true) rfl 5 rfl rfl rfl
theorem d_191_545 {B : zeB} {im : Nat → Nat → Int32} {lm : Nat → Nat → Int64} (o1 : Option Value) (o2 : Option Value) (o3 : Option Value) (o4 : Option Value) (o5 : Option Value) (o6 : Option Value) (o7 : Option Value) (l8 : Int32) (l9 : Int32) (l10 : Int32) (l11 : Int32) (o12 : Option Value) (s0 : Int32) (s1 : Int32)  : zeRun 191 545 [some (.ref 16), o1, o2, o3, o4, o5, o6, o7, some (.int l8), some (.int l9), some (.int l10), some (.int l11), o12] [.int s1, .int s0] (zk B im lm) = if s0 = s1 then zeRun 191 548 [some (.ref 16), o1, o2, o3, o4, o5, o6, o7, some (.int l8), some (.int l9), some (.int l10), some (.int l11), o12] [] (zk B im lm) else zeRun 191 617 [some (.ref 16), o1, o2, o3, o4, o5, o6, o7, some (.int l8), some (.int l9), some (.int l10), some (.int l11), o12] [] (zk B im lm) := ze_if (ok := true) rfl 1 rfl rfl
theorem d_191_548 {B : zeB} {im : Nat → Nat → Int32} {lm : Nat → Nat → Int64} (o1 : Option Value) (o2 : Option Value) (o3 : Option Value) (o4 : Option Value) (o5 : Option Value) (o6 : Option Value) (o7 : Option Value) (l8 : Int32) (l9 : Int32) (l10 : Int32) (l11 : Int32) (o12 : Option Value)  : zeRun 191 548 [some (.ref 16), o1, o2, o3, o4, o5, o6, o7, some (.int l8), some (.int l9), some (.int l10), some (.int l11), o12] [] (zk B im lm) = zeBh 191 555 [some (.ref 16), o1, o2, o3, o4, o5, o6, o7, some (.int l8), some (.int l9), some (.int l10), some (.int l11), o12] [] (zeRun 172 0 [some (.ref 16), some (.int l10), some (.int 0)] [] (zk B im lm)) := ze_call (ok := true) rfl 4 rfl rfl rfl
theorem d_191_555 {B : zeB} {im : Nat → Nat → Int32} {lm : Nat → Nat → Int64} (o1 : Option Value) (o2 : Option Value) (o3 : Option Value) (o4 : Option Value) (o5 : Option Value) (o6 : Option Value) (o7 : Option Value) (l8 : Int32) (l9 : Int32) (l10 : Int32) (l11 : Int32) (o12 : Option Value) (s0 : Int32)  : zeRun 191 555 [some (.ref 16), o1, o2, o3, o4, o5, o6, o7, some (.int l8), some (.int l9), some (.int l10), some (.int l11), o12] [.int s0] (zk B im lm) = if s0 = l9 then zeRun 191 560 [some (.ref 16), o1, o2, o3, o4, o5, o6, o7, some (.int l8), some (.int l9), some (.int l10), some (.int l11), o12] [] (zk B im lm) else zeRun 191 617 [some (.ref 16), o1, o2, o3, o4, o5, o6, o7, some (.int l8), some (.int l9), some (.int l10), some (.int l11), o12] [] (zk B im lm) := ze_if (ok := true) rfl 2 rfl rfl
theorem d_191_560 {B : zeB} {im : Nat → Nat → Int32} {lm : Nat → Nat → Int64} (o1 : Option Value) (o2 : Option Value) (o3 : Option Value) (o4 : Option Value) (o5 : Option Value) (o6 : Option Value) (o7 : Option Value) (l8 : Int32) (l9 : Int32) (l10 : Int32) (l11 : Int32) (o12 : Option Value)  : zeRun 191 560 [some (.ref 16), o1, o2, o3, o4, o5, o6, o7, some (.int l8), some (.int l9), some (.int l10), some (.int l11), o12] [] (zk B im lm) = zeBh 191 567 [some (.ref 16), o1, o2, o3, o4, o5, o6, o7, some (.int l8), some (.int l9), some (.int l10), some (.int l11), o12] [] (zeRun 172 0 [some (.ref 16), some (.int l10), some (.int 1)] [] (zk B im lm)) := ze_call (ok := true) rfl 4 rfl rfl rfl
theorem d_191_567 {B : zeB} {im : Nat → Nat → Int32} {lm : Nat → Nat → Int64} (o1 : Option Value) (o2 : Option Value) (o3 : Option Value) (o4 : Option Value) (o5 : Option Value) (o6 : Option Value) (o7 : Option Value) (l8 : Int32) (l9 : Int32) (o10 : Option Value) (l11 : Int32) (o12 : Option Value) (s0 : Int32)  : zeRun 191 567 [some (.ref 16), o1, o2, o3, o4, o5, o6, o7, some (.int l8), some (.int l9), o10, some (.int l11), o12] [.int s0] (zk B im lm) = if l8 = 0 then zeRun 191 572 [some (.ref 16), o1, o2, o3, o4, o5, o6, o7, some (.int l8), some (.int l9), o10, some (.int l11), o12] [.int s0] (zk B im lm) else zeRun 191 576 [some (.ref 16), o1, o2, o3, o4, o5, o6, o7, some (.int l8), some (.int l9), o10, some (.int l11), o12] [.int s0] (zk B im lm) := ze_if (ok := true) rfl 2 rfl rfl
theorem d_191_572 {B : zeB} {im : Nat → Nat → Int32} {lm : Nat → Nat → Int64} (o1 : Option Value) (o2 : Option Value) (o3 : Option Value) (o4 : Option Value) (o5 : Option Value) (o6 : Option Value) (o7 : Option Value) (o8 : Option Value) (l9 : Int32) (o10 : Option Value) (l11 : Int32) (o12 : Option Value) (s0 : Int32)  : zeRun 191 572 [some (.ref 16), o1, o2, o3, o4, o5, o6, o7, o8, some (.int l9), o10, some (.int l11), o12] [.int s0] (zk B im lm) = zeRun 191 577 [some (.ref 16), o1, o2, o3, o4, o5, o6, o7, o8, some (.int l9), o10, some (.int l11), o12] [.int 0, .int s0] (zk B im lm) := ze_go (ok := true) rfl 2 rfl rfl
theorem d_191_576 {B : zeB} {im : Nat → Nat → Int32} {lm : Nat → Nat → Int64} (o1 : Option Value) (o2 : Option Value) (o3 : Option Value) (o4 : Option Value) (o5 : Option Value) (o6 : Option Value) (o7 : Option Value) (o8 : Option Value) (l9 : Int32) (o10 : Option Value) (l11 : Int32) (o12 : Option Value) (s0 : Int32)  : zeRun 191 576 [some (.ref 16), o1, o2, o3, o4, o5, o6, o7, o8, some (.int l9), o10, some (.int l11), o12] [.int s0] (zk B im lm) = zeRun 191 577 [some (.ref 16), o1, o2, o3, o4, o5, o6, o7, o8, some (.int l9), o10, some (.int l11), o12] [.int 1, .int s0] (zk B im lm) := ze_go (ok := true) rfl 1 rfl rfl
theorem d_191_617 {B : zeB} {im : Nat → Nat → Int32} {lm : Nat → Nat → Int64} (o0 : Option Value) (o1 : Option Value) (o2 : Option Value) (o3 : Option Value) (o4 : Option Value) (o5 : Option Value) (o6 : Option Value) (o7 : Option Value) (o8 : Option Value) (o9 : Option Value) (o10 : Option Value) (o11 : Option Value) (o12 : Option Value)  : zeRun 191 617 [o0, o1, o2, o3, o4, o5, o6, o7, o8, o9, o10, o11, o12] [] (zk B im lm) = some (some (.int 0), (zk B im lm)) := ze_ret (ok := true) rfl 2 rfl rfl
theorem d_191_577 {B : zeB} {im : Nat → Nat → Int32} {lm : Nat → Nat → Int64} (o1 : Option Value) (o2 : Option Value) (o3 : Option Value) (o4 : Option Value) (o5 : Option Value) (o6 : Option Value) (o7 : Option Value) (o8 : Option Value) (l9 : Int32) (o10 : Option Value) (l11 : Int32) (o12 : Option Value) (s0 : Int32) (s1 : Int32)  : zeRun 191 577 [some (.ref 16), o1, o2, o3, o4, o5, o6, o7, o8, some (.int l9), o10, some (.int l11), o12] [.int s1, .int s0] (zk B im lm) = if s0 = s1 then zeRun 191 580 [some (.ref 16), o1, o2, o3, o4, o5, o6, o7, o8, some (.int l9), o10, some (.int l11), o12] [] (zk B im lm) else zeRun 191 617 [some (.ref 16), o1, o2, o3, o4, o5, o6, o7, o8, some (.int l9), o10, some (.int l11), o12] [] (zk B im lm) := ze_if (ok := true) rfl 1 rfl rfl
theorem d_191_580 {B : zeB} {im : Nat → Nat → Int32} {lm : Nat → Nat → Int64} (o1 : Option Value) (o2 : Option Value) (o3 : Option Value) (o4 : Option Value) (o5 : Option Value) (o6 : Option Value) (o7 : Option Value) (o8 : Option Value) (l9 : Int32) (o10 : Option Value) (l11 : Int32) (o12 : Option Value)  : zeRun 191 580 [some (.ref 16), o1, o2, o3, o4, o5, o6, o7, o8, some (.int l9), o10, some (.int l11), o12] [] (zk B im lm) = zeBh 191 585 [some (.ref 16), o1, o2, o3, o4, o5, o6, o7, o8, some (.int l9), o10, some (.int l11), o12] [] (zeRun 177 0 [some (.ref 16), some (.int 0)] [] (zk B im lm)) := ze_call (ok := true) rfl 3 rfl rfl rfl
theorem d_191_585 {B : zeB} {im : Nat → Nat → Int32} {lm : Nat → Nat → Int64} (o1 : Option Value) (o2 : Option Value) (o3 : Option Value) (o4 : Option Value) (o5 : Option Value) (o6 : Option Value) (o7 : Option Value) (o8 : Option Value) (l9 : Int32) (o10 : Option Value) (l11 : Int32) (o12 : Option Value) (s0 : Int32)  : zeRun 191 585 [some (.ref 16), o1, o2, o3, o4, o5, o6, o7, o8, some (.int l9), o10, some (.int l11), o12] [.int s0] (zk B im lm) = if l11 = 0 then zeRun 191 594 [some (.ref 16), o1, o2, o3, o4, o5, o6, o7, o8, some (.int l9), o10, some (.int l11), o12] [.int s0] (zk B im lm) else zeRun 191 590 [some (.ref 16), o1, o2, o3, o4, o5, o6, o7, o8, some (.int l9), o10, some (.int l11), o12] [.int s0] (zk B im lm) := ze_if (ok := true) rfl 2 rfl rfl
theorem d_191_594 {B : zeB} {im : Nat → Nat → Int32} {lm : Nat → Nat → Int64} (o1 : Option Value) (o2 : Option Value) (o3 : Option Value) (o4 : Option Value) (o5 : Option Value) (o6 : Option Value) (o7 : Option Value) (o8 : Option Value) (l9 : Int32) (o10 : Option Value) (l11 : Int32) (o12 : Option Value) (s0 : Int32)  : zeRun 191 594 [some (.ref 16), o1, o2, o3, o4, o5, o6, o7, o8, some (.int l9), o10, some (.int l11), o12] [.int s0] (zk B im lm) = zeRun 191 595 [some (.ref 16), o1, o2, o3, o4, o5, o6, o7, o8, some (.int l9), o10, some (.int l11), o12] [.int 1, .int s0] (zk B im lm) := ze_go (ok := true) rfl 1 rfl rfl
theorem d_191_590 {B : zeB} {im : Nat → Nat → Int32} {lm : Nat → Nat → Int64} (o1 : Option Value) (o2 : Option Value) (o3 : Option Value) (o4 : Option Value) (o5 : Option Value) (o6 : Option Value) (o7 : Option Value) (o8 : Option Value) (l9 : Int32) (o10 : Option Value) (l11 : Int32) (o12 : Option Value) (s0 : Int32)  : zeRun 191 590 [some (.ref 16), o1, o2, o3, o4, o5, o6, o7, o8, some (.int l9), o10, some (.int l11), o12] [.int s0] (zk B im lm) = zeRun 191 595 [some (.ref 16), o1, o2, o3, o4, o5, o6, o7, o8, some (.int l9), o10, some (.int l11), o12] [.int 0, .int s0] (zk B im lm) := ze_go (ok := true) rfl 2 rfl rfl
theorem d_191_595 {B : zeB} {im : Nat → Nat → Int32} {lm : Nat → Nat → Int64} (o1 : Option Value) (o2 : Option Value) (o3 : Option Value) (o4 : Option Value) (o5 : Option Value) (o6 : Option Value) (o7 : Option Value) (o8 : Option Value) (l9 : Int32) (o10 : Option Value) (l11 : Int32) (o12 : Option Value) (s0 : Int32) (s1 : Int32)  : zeRun 191 595 [some (.ref 16), o1, o2, o3, o4, o5, o6, o7, o8, some (.int l9), o10, some (.int l11), o12] [.int s1, .int s0] (zk B im lm) = if s0 = s1 then zeRun 191 598 [some (.ref 16), o1, o2, o3, o4, o5, o6, o7, o8, some (.int l9), o10, some (.int l11), o12] [] (zk B im lm) else zeRun 191 617 [some (.ref 16), o1, o2, o3, o4, o5, o6, o7, o8, some (.int l9), o10, some (.int l11), o12] [] (zk B im lm) := ze_if (ok := true) rfl 1 rfl rfl
theorem d_191_598 {B : zeB} {im : Nat → Nat → Int32} {lm : Nat → Nat → Int64} (o1 : Option Value) (o2 : Option Value) (o3 : Option Value) (o4 : Option Value) (o5 : Option Value) (o6 : Option Value) (o7 : Option Value) (o8 : Option Value) (l9 : Int32) (o10 : Option Value) (l11 : Int32) (o12 : Option Value)  : zeRun 191 598 [some (.ref 16), o1, o2, o3, o4, o5, o6, o7, o8, some (.int l9), o10, some (.int l11), o12] [] (zk B im lm) = if l11 = 0 then zeRun 191 603 [some (.ref 16), o1, o2, o3, o4, o5, o6, o7, o8, some (.int l9), o10, some (.int l11), o12] [] (zk B im lm) else zeRun 191 613 [some (.ref 16), o1, o2, o3, o4, o5, o6, o7, o8, some (.int l9), o10, some (.int l11), o12] [] (zk B im lm) := ze_if (ok := true) rfl 2 rfl rfl
theorem d_191_603 {B : zeB} {im : Nat → Nat → Int32} {lm : Nat → Nat → Int64} (o1 : Option Value) (o2 : Option Value) (o3 : Option Value) (o4 : Option Value) (o5 : Option Value) (o6 : Option Value) (o7 : Option Value) (o8 : Option Value) (l9 : Int32) (o10 : Option Value) (o11 : Option Value) (o12 : Option Value)  : zeRun 191 603 [some (.ref 16), o1, o2, o3, o4, o5, o6, o7, o8, some (.int l9), o10, o11, o12] [] (zk B im lm) = zeBh 191 608 [some (.ref 16), o1, o2, o3, o4, o5, o6, o7, o8, some (.int l9), o10, o11, o12] [] (zeRun 166 0 [some (.ref 16), some (.int 0)] [] (zk B im lm)) := ze_call (ok := true) rfl 3 rfl rfl rfl
theorem d_191_608 {B : zeB} {im : Nat → Nat → Int32} {lm : Nat → Nat → Int64} (o0 : Option Value) (o1 : Option Value) (o2 : Option Value) (o3 : Option Value) (o4 : Option Value) (o5 : Option Value) (o6 : Option Value) (o7 : Option Value) (o8 : Option Value) (l9 : Int32) (o10 : Option Value) (o11 : Option Value) (o12 : Option Value) (s0 : Int32)  : zeRun 191 608 [o0, o1, o2, o3, o4, o5, o6, o7, o8, some (.int l9), o10, o11, o12] [.int s0] (zk B im lm) = if s0 = l9 then zeRun 191 617 [o0, o1, o2, o3, o4, o5, o6, o7, o8, some (.int l9), o10, o11, o12] [] (zk B im lm) else zeRun 191 613 [o0, o1, o2, o3, o4, o5, o6, o7, o8, some (.int l9), o10, o11, o12] [] (zk B im lm) := ze_if (ok := true) rfl 2 rfl rfl
theorem d_191_613 {B : zeB} {im : Nat → Nat → Int32} {lm : Nat → Nat → Int64} (o0 : Option Value) (o1 : Option Value) (o2 : Option Value) (o3 : Option Value) (o4 : Option Value) (o5 : Option Value) (o6 : Option Value) (o7 : Option Value) (o8 : Option Value) (o9 : Option Value) (o10 : Option Value) (o11 : Option Value) (o12 : Option Value)  : zeRun 191 613 [o0, o1, o2, o3, o4, o5, o6, o7, o8, o9, o10, o11, o12] [] (zk B im lm) = some (some (.int 1), (zk B im lm)) := ze_ret (ok := true) rfl 3 rfl rfl
theorem d_191_503 {B : zeB} {im : Nat → Nat → Int32} {lm : Nat → Nat → Int64} (o1 : Option Value) (o2 : Option Value) (o3 : Option Value) (o4 : Option Value) (o5 : Option Value) (o6 : Option Value) (o7 : Option Value) (o8 : Option Value) (l9 : Int32) (o10 : Option Value) (o11 : Option Value) (l12 : Int32)  : zeRun 191 503 [some (.ref 16), o1, o2, o3, o4, o5, o6, o7, o8, some (.int l9), o10, o11, some (.int l12)] [] (zk B im lm) = if l12 = (-10000003) then zeRun 191 510 [some (.ref 16), o1, o2, o3, o4, o5, o6, o7, o8, some (.int l9), o10, o11, some (.int l12)] [] (zk B im lm) else zeRun 191 534 [some (.ref 16), o1, o2, o3, o4, o5, o6, o7, o8, some (.int l9), o10, o11, some (.int l12)] [] (zk B im lm) := ze_if (ok := true) rfl 3 rfl rfl
theorem d_191_510 {B : zeB} {im : Nat → Nat → Int32} {lm : Nat → Nat → Int64} (o1 : Option Value) (o2 : Option Value) (o3 : Option Value) (o4 : Option Value) (o5 : Option Value) (o6 : Option Value) (o7 : Option Value) (o8 : Option Value) (l9 : Int32) (o10 : Option Value) (o11 : Option Value) (o12 : Option Value)  : zeRun 191 510 [some (.ref 16), o1, o2, o3, o4, o5, o6, o7, o8, some (.int l9), o10, o11, o12] [] (zk B im lm) = zeBh 191 516 [some (.ref 16), o1, o2, o3, o4, o5, o6, o7, o8, some (.int l9), o10, o11, o12] [] (zeRun 177 0 [some (.ref 16), some (.int 11)] [] (zk B im lm)) := ze_call (ok := true) rfl 3 rfl rfl rfl
theorem d_191_516 {B : zeB} {im : Nat → Nat → Int32} {lm : Nat → Nat → Int64} (o0 : Option Value) (o1 : Option Value) (o2 : Option Value) (o3 : Option Value) (o4 : Option Value) (o5 : Option Value) (o6 : Option Value) (o7 : Option Value) (o8 : Option Value) (l9 : Int32) (o10 : Option Value) (o11 : Option Value) (o12 : Option Value) (s0 : Int32)  : zeRun 191 516 [o0, o1, o2, o3, o4, o5, o6, o7, o8, some (.int l9), o10, o11, o12] [.int s0] (zk B im lm) = if 0 ≤ l9 then zeRun 191 525 [o0, o1, o2, o3, o4, o5, o6, o7, o8, some (.int l9), o10, o11, o12] [.int s0] (zk B im lm) else zeRun 191 521 [o0, o1, o2, o3, o4, o5, o6, o7, o8, some (.int l9), o10, o11, o12] [.int s0] (zk B im lm) := ze_if (ok := true) rfl 2 rfl rfl
theorem d_191_525 {B : zeB} {im : Nat → Nat → Int32} {lm : Nat → Nat → Int64} (o0 : Option Value) (o1 : Option Value) (o2 : Option Value) (o3 : Option Value) (o4 : Option Value) (o5 : Option Value) (o6 : Option Value) (o7 : Option Value) (o8 : Option Value) (o9 : Option Value) (o10 : Option Value) (o11 : Option Value) (o12 : Option Value) (s0 : Int32)  : zeRun 191 525 [o0, o1, o2, o3, o4, o5, o6, o7, o8, o9, o10, o11, o12] [.int s0] (zk B im lm) = zeRun 191 527 [o0, o1, o2, o3, o4, o5, o6, o7, o8, o9, o10, o11, o12] [.int 7, .int s0] (zk B im lm) := ze_go (ok := true) rfl 1 rfl rfl
theorem d_191_521 {B : zeB} {im : Nat → Nat → Int32} {lm : Nat → Nat → Int64} (o0 : Option Value) (o1 : Option Value) (o2 : Option Value) (o3 : Option Value) (o4 : Option Value) (o5 : Option Value) (o6 : Option Value) (o7 : Option Value) (o8 : Option Value) (o9 : Option Value) (o10 : Option Value) (o11 : Option Value) (o12 : Option Value) (s0 : Int32)  : zeRun 191 521 [o0, o1, o2, o3, o4, o5, o6, o7, o8, o9, o10, o11, o12] [.int s0] (zk B im lm) = zeRun 191 527 [o0, o1, o2, o3, o4, o5, o6, o7, o8, o9, o10, o11, o12] [.int 4, .int s0] (zk B im lm) := ze_go (ok := true) rfl 2 rfl rfl
theorem d_191_534 {B : zeB} {im : Nat → Nat → Int32} {lm : Nat → Nat → Int64} (o0 : Option Value) (o1 : Option Value) (o2 : Option Value) (o3 : Option Value) (o4 : Option Value) (o5 : Option Value) (o6 : Option Value) (o7 : Option Value) (o8 : Option Value) (o9 : Option Value) (o10 : Option Value) (o11 : Option Value) (o12 : Option Value)  : zeRun 191 534 [o0, o1, o2, o3, o4, o5, o6, o7, o8, o9, o10, o11, o12] [] (zk B im lm) = some (some (.int 0), (zk B im lm)) := ze_ret (ok := true) rfl 2 rfl rfl
theorem d_191_527 {B : zeB} {im : Nat → Nat → Int32} {lm : Nat → Nat → Int64} (o0 : Option Value) (o1 : Option Value) (o2 : Option Value) (o3 : Option Value) (o4 : Option Value) (o5 : Option Value) (o6 : Option Value) (o7 : Option Value) (o8 : Option Value) (o9 : Option Value) (o10 : Option Value) (o11 : Option Value) (o12 : Option Value) (s0 : Int32) (s1 : Int32)  : zeRun 191 527 [o0, o1, o2, o3, o4, o5, o6, o7, o8, o9, o10, o11, o12] [.int s1, .int s0] (zk B im lm) = if s0 = s1 then zeRun 191 530 [o0, o1, o2, o3, o4, o5, o6, o7, o8, o9, o10, o11, o12] [] (zk B im lm) else zeRun 191 534 [o0, o1, o2, o3, o4, o5, o6, o7, o8, o9, o10, o11, o12] [] (zk B im lm) := ze_if (ok := true) rfl 1 rfl rfl
theorem d_191_530 {B : zeB} {im : Nat → Nat → Int32} {lm : Nat → Nat → Int64} (o0 : Option Value) (o1 : Option Value) (o2 : Option Value) (o3 : Option Value) (o4 : Option Value) (o5 : Option Value) (o6 : Option Value) (o7 : Option Value) (o8 : Option Value) (o9 : Option Value) (o10 : Option Value) (o11 : Option Value) (o12 : Option Value)  : zeRun 191 530 [o0, o1, o2, o3, o4, o5, o6, o7, o8, o9, o10, o11, o12] [] (zk B im lm) = some (some (.int 1), (zk B im lm)) := ze_ret (ok := true) rfl 3 rfl rfl
theorem d_191_56 {B : zeB} {im : Nat → Nat → Int32} {lm : Nat → Nat → Int64} (l1 : Int32) (o2 : Option Value) (o3 : Option Value) (o4 : Option Value) (l5 : Int32) (l6 : Int32) (l7 : Int32) (o8 : Option Value) (o9 : Option Value) (o10 : Option Value) (o11 : Option Value) (o12 : Option Value) (s0 : Int32)  : zeRun 191 56 [some (.ref 16), some (.int l1), o2, o3, o4, some (.int l5), some (.int l6), some (.int l7), o8, o9, o10, o11, o12] [.int s0] (zk B im lm) = if (l1 &&& 48) = 0 then zeRun 191 65 [some (.ref 16), some (.int l1), o2, o3, o4, some (.int l5), some (.int l6), some (.int l7), some (.int s0), o9, o10, o11, o12] [] (zk B im lm) else zeRun 191 70 [some (.ref 16), some (.int l1), o2, o3, o4, some (.int l5), some (.int l6), some (.int l7), some (.int s0), o9, o10, o11, o12] [] (zk B im lm) := ze_if (ok := true) rfl 5 rfl rfl
theorem d_191_65 {B : zeB} {im : Nat → Nat → Int32} {lm : Nat → Nat → Int64} (o1 : Option Value) (o2 : Option Value) (o3 : Option Value) (o4 : Option Value) (l5 : Int32) (l6 : Int32) (l7 : Int32) (l8 : Int32) (o9 : Option Value) (o10 : Option Value) (o11 : Option Value) (o12 : Option Value)  : zeRun 191 65 [some (.ref 16), o1, o2, o3, o4, some (.int l5), some (.int l6), some (.int l7), some (.int l8), o9, o10, o11, o12] [] (zk B im lm) = zeRun 191 72 [some (.ref 16), o1, o2, o3, o4, some (.int l5), some (.int l6), some (.int l7), some (.int l8), o9, o10, o11, o12] [.int l6] (zk B im lm) := ze_go (ok := true) rfl 2 rfl rfl
theorem d_191_70 {B : zeB} {im : Nat → Nat → Int32} {lm : Nat → Nat → Int64} (o1 : Option Value) (o2 : Option Value) (o3 : Option Value) (o4 : Option Value) (l5 : Int32) (o6 : Option Value) (l7 : Int32) (l8 : Int32) (o9 : Option Value) (o10 : Option Value) (o11 : Option Value) (o12 : Option Value)  : zeRun 191 70 [some (.ref 16), o1, o2, o3, o4, some (.int l5), o6, some (.int l7), some (.int l8), o9, o10, o11, o12] [] (zk B im lm) = zeRun 191 72 [some (.ref 16), o1, o2, o3, o4, some (.int l5), o6, some (.int l7), some (.int l8), o9, o10, o11, o12] [.int l5] (zk B im lm) := ze_go (ok := true) rfl 1 rfl rfl
theorem d_191_72 {B : zeB} {im : Nat → Nat → Int32} {lm : Nat → Nat → Int64} (o1 : Option Value) (o2 : Option Value) (o3 : Option Value) (o4 : Option Value) (l5 : Int32) (o6 : Option Value) (l7 : Int32) (l8 : Int32) (o9 : Option Value) (o10 : Option Value) (o11 : Option Value) (o12 : Option Value) (s0 : Int32)  : zeRun 191 72 [some (.ref 16), o1, o2, o3, o4, some (.int l5), o6, some (.int l7), some (.int l8), o9, o10, o11, o12] [.int s0] (zk B im lm) = zeBh 191 82 [some (.ref 16), o1, o2, o3, o4, some (.int l5), o6, some (.int l7), some (.int l8), some (.int s0), o10, o11, o12] [] (zeRun 43 0 [some (.ref 16), some (.int s0), some (.int l7)] [] (zk B im lm)) := ze_call (ok := true) rfl 5 rfl rfl rfl
theorem d_191_82 {B : zeB} {im : Nat → Nat → Int32} {lm : Nat → Nat → Int64} (o1 : Option Value) (o2 : Option Value) (o3 : Option Value) (o4 : Option Value) (l5 : Int32) (o6 : Option Value) (l7 : Int32) (l8 : Int32) (l9 : Int32) (o10 : Option Value) (o11 : Option Value) (o12 : Option Value) (s0 : Int32)  : zeRun 191 82 [some (.ref 16), o1, o2, o3, o4, some (.int l5), o6, some (.int l7), some (.int l8), some (.int l9), o10, o11, o12] [.int s0] (zk B im lm) = if l9 = l5 then zeRun 191 95 [some (.ref 16), o1, o2, o3, o4, some (.int l5), o6, some (.int l7), some (.int l8), some (.int l9), some (.int s0), o11, o12] [] (zk B im lm) else zeRun 191 91 [some (.ref 16), o1, o2, o3, o4, some (.int l5), o6, some (.int l7), some (.int l8), some (.int l9), some (.int s0), o11, o12] [] (zk B im lm) := ze_if (ok := true) rfl 4 rfl rfl
theorem d_191_95 {B : zeB} {im : Nat → Nat → Int32} {lm : Nat → Nat → Int64} (o1 : Option Value) (o2 : Option Value) (o3 : Option Value) (o4 : Option Value) (o5 : Option Value) (o6 : Option Value) (l7 : Int32) (l8 : Int32) (l9 : Int32) (l10 : Int32) (o11 : Option Value) (o12 : Option Value)  : zeRun 191 95 [some (.ref 16), o1, o2, o3, o4, o5, o6, some (.int l7), some (.int l8), some (.int l9), some (.int l10), o11, o12] [] (zk B im lm) = if l8 = 0 then zeRun 191 104 [some (.ref 16), o1, o2, o3, o4, o5, o6, some (.int l7), some (.int l8), some (.int l9), some (.int l10), o11, o12] [] (zk B im lm) else zeRun 191 100 [some (.ref 16), o1, o2, o3, o4, o5, o6, some (.int l7), some (.int l8), some (.int l9), some (.int l10), o11, o12] [] (zk B im lm) := ze_if (ok := true) rfl 2 rfl rfl
theorem d_191_104 {B : zeB} {im : Nat → Nat → Int32} {lm : Nat → Nat → Int64} (o1 : Option Value) (o2 : Option Value) (o3 : Option Value) (o4 : Option Value) (o5 : Option Value) (o6 : Option Value) (l7 : Int32) (o8 : Option Value) (l9 : Int32) (l10 : Int32) (o11 : Option Value) (o12 : Option Value)  : zeRun 191 104 [some (.ref 16), o1, o2, o3, o4, o5, o6, some (.int l7), o8, some (.int l9), some (.int l10), o11, o12] [] (zk B im lm) = zeRun 191 105 [some (.ref 16), o1, o2, o3, o4, o5, o6, some (.int l7), o8, some (.int l9), some (.int l10), o11, o12] [.int 0] (zk B im lm) := ze_go (ok := true) rfl 1 rfl rfl
theorem d_191_100 {B : zeB} {im : Nat → Nat → Int32} {lm : Nat → Nat → Int64} (o1 : Option Value) (o2 : Option Value) (o3 : Option Value) (o4 : Option Value) (o5 : Option Value) (o6 : Option Value) (l7 : Int32) (o8 : Option Value) (l9 : Int32) (l10 : Int32) (o11 : Option Value) (o12 : Option Value)  : zeRun 191 100 [some (.ref 16), o1, o2, o3, o4, o5, o6, some (.int l7), o8, some (.int l9), some (.int l10), o11, o12] [] (zk B im lm) = zeRun 191 105 [some (.ref 16), o1, o2, o3, o4, o5, o6, some (.int l7), o8, some (.int l9), some (.int l10), o11, o12] [.int 3] (zk B im lm) := ze_go (ok := true) rfl 2 rfl rfl
theorem d_191_91 {B : zeB} {im : Nat → Nat → Int32} {lm : Nat → Nat → Int64} (o1 : Option Value) (o2 : Option Value) (o3 : Option Value) (o4 : Option Value) (o5 : Option Value) (o6 : Option Value) (l7 : Int32) (o8 : Option Value) (l9 : Int32) (l10 : Int32) (o11 : Option Value) (o12 : Option Value)  : zeRun 191 91 [some (.ref 16), o1, o2, o3, o4, o5, o6, some (.int l7), o8, some (.int l9), some (.int l10), o11, o12] [] (zk B im lm) = zeRun 191 105 [some (.ref 16), o1, o2, o3, o4, o5, o6, some (.int l7), o8, some (.int l9), some (.int l10), o11, o12] [.int 2] (zk B im lm) := ze_go (ok := true) rfl 2 rfl rfl
theorem d_191_105 {B : zeB} {im : Nat → Nat → Int32} {lm : Nat → Nat → Int64} (o1 : Option Value) (o2 : Option Value) (o3 : Option Value) (o4 : Option Value) (o5 : Option Value) (o6 : Option Value) (l7 : Int32) (o8 : Option Value) (l9 : Int32) (l10 : Int32) (o11 : Option Value) (o12 : Option Value) (s0 : Int32)  : zeRun 191 105 [some (.ref 16), o1, o2, o3, o4, o5, o6, some (.int l7), o8, some (.int l9), some (.int l10), o11, o12] [.int s0] (zk B im lm) = if s0 ≤ 0 then zeRun 191 138 [some (.ref 16), o1, o2, o3, o4, o5, o6, some (.int l7), o8, some (.int l9), some (.int l10), some (.int s0), o12] [] (zk B im lm) else zeRun 191 112 [some (.ref 16), o1, o2, o3, o4, o5, o6, some (.int l7), o8, some (.int l9), some (.int l10), some (.int s0), o12] [] (zk B im lm) := ze_if (ok := true) rfl 3 rfl rfl
theorem d_191_138 {B : zeB} {im : Nat → Nat → Int32} {lm : Nat → Nat → Int64} (o1 : Option Value) (o2 : Option Value) (o3 : Option Value) (o4 : Option Value) (o5 : Option Value) (o6 : Option Value) (l7 : Int32) (o8 : Option Value) (l9 : Int32) (l10 : Int32) (o11 : Option Value) (o12 : Option Value)  : zeRun 191 138 [some (.ref 16), o1, o2, o3, o4, o5, o6, some (.int l7), o8, some (.int l9), some (.int l10), o11, o12] [] (zk B im lm) = zeBh 191 147 [some (.ref 16), o1, o2, o3, o4, o5, o6, some (.int l7), o8, some (.int l9), some (.int l10), o11, o12] [.int l10] (zeRun 169 0 [some (.ref 16), some (.int l7), some (.int 0)] [] (zk B im lm)) := ze_call (ok := true) rfl 5 rfl rfl rfl
theorem d_191_147 {B : zeB} {im : Nat → Nat → Int32} {lm : Nat → Nat → Int64} (o1 : Option Value) (o2 : Option Value) (o3 : Option Value) (o4 : Option Value) (o5 : Option Value) (o6 : Option Value) (l7 : Int32) (o8 : Option Value) (l9 : Int32) (o10 : Option Value) (o11 : Option Value) (o12 : Option Value) (s0 : Int32) (s1 : Int32)  : zeRun 191 147 [some (.ref 16), o1, o2, o3, o4, o5, o6, some (.int l7), o8, some (.int l9), o10, o11, o12] [.int s1, .int s0] (zk B im lm) = if s0 = s1 then zeRun 191 150 [some (.ref 16), o1, o2, o3, o4, o5, o6, some (.int l7), o8, some (.int l9), o10, o11, o12] [] (zk B im lm) else zeRun 191 187 [some (.ref 16), o1, o2, o3, o4, o5, o6, some (.int l7), o8, some (.int l9), o10, o11, o12] [] (zk B im lm) := ze_if (ok := true) rfl 1 rfl rfl
theorem d_191_150 {B : zeB} {im : Nat → Nat → Int32} {lm : Nat → Nat → Int64} (o1 : Option Value) (o2 : Option Value) (o3 : Option Value) (o4 : Option Value) (o5 : Option Value) (o6 : Option Value) (l7 : Int32) (o8 : Option Value) (l9 : Int32) (o10 : Option Value) (o11 : Option Value) (o12 : Option Value)  : zeRun 191 150 [some (.ref 16), o1, o2, o3, o4, o5, o6, some (.int l7), o8, some (.int l9), o10, o11, o12] [] (zk B im lm) = zeBh 191 155 [some (.ref 16), o1, o2, o3, o4, o5, o6, some (.int l7), o8, some (.int l9), o10, o11, o12] [] (zeRun 177 0 [some (.ref 16), some (.int 3)] [] (zk B im lm)) := ze_call (ok := true) rfl 3 rfl rfl rfl
theorem d_191_155 {B : zeB} {im : Nat → Nat → Int32} {lm : Nat → Nat → Int64} (o1 : Option Value) (o2 : Option Value) (o3 : Option Value) (o4 : Option Value) (o5 : Option Value) (o6 : Option Value) (l7 : Int32) (o8 : Option Value) (l9 : Int32) (o10 : Option Value) (o11 : Option Value) (o12 : Option Value) (s0 : Int32)  : zeRun 191 155 [some (.ref 16), o1, o2, o3, o4, o5, o6, some (.int l7), o8, some (.int l9), o10, o11, o12] [.int s0] (zk B im lm) = if s0 = l7 then zeRun 191 160 [some (.ref 16), o1, o2, o3, o4, o5, o6, some (.int l7), o8, some (.int l9), o10, o11, o12] [] (zk B im lm) else zeRun 191 187 [some (.ref 16), o1, o2, o3, o4, o5, o6, some (.int l7), o8, some (.int l9), o10, o11, o12] [] (zk B im lm) := ze_if (ok := true) rfl 2 rfl rfl
theorem d_191_160 {B : zeB} {im : Nat → Nat → Int32} {lm : Nat → Nat → Int64} (o1 : Option Value) (o2 : Option Value) (o3 : Option Value) (o4 : Option Value) (o5 : Option Value) (o6 : Option Value) (l7 : Int32) (o8 : Option Value) (l9 : Int32) (o10 : Option Value) (o11 : Option Value) (o12 : Option Value)  : zeRun 191 160 [some (.ref 16), o1, o2, o3, o4, o5, o6, some (.int l7), o8, some (.int l9), o10, o11, o12] [] (zk B im lm) = zeBh 191 168 [some (.ref 16), o1, o2, o3, o4, o5, o6, some (.int l7), o8, some (.int l9), o10, o11, o12] [] (zeRun 43 0 [some (.ref 16), some (.int l9), some (.int l7)] [] (zk B im lm)) := ze_call (ok := true) rfl 4 rfl rfl rfl
theorem d_191_168 {B : zeB} {im : Nat → Nat → Int32} {lm : Nat → Nat → Int64} (o1 : Option Value) (o2 : Option Value) (o3 : Option Value) (o4 : Option Value) (o5 : Option Value) (o6 : Option Value) (o7 : Option Value) (o8 : Option Value) (o9 : Option Value) (o10 : Option Value) (o11 : Option Value) (o12 : Option Value) (s0 : Int32)  : zeRun 191 168 [some (.ref 16), o1, o2, o3, o4, o5, o6, o7, o8, o9, o10, o11, o12] [.int s0] (zk B im lm) = if s0 = (-10000003) then zeRun 191 173 [some (.ref 16), o1, o2, o3, o4, o5, o6, o7, o8, o9, o10, o11, o12] [] (zk B im lm) else zeRun 191 187 [some (.ref 16), o1, o2, o3, o4, o5, o6, o7, o8, o9, o10, o11, o12] [] (zk B im lm) := ze_if (ok := true) rfl 2 rfl rfl
theorem d_191_173 {B : zeB} {im : Nat → Nat → Int32} {lm : Nat → Nat → Int64} (o1 : Option Value) (o2 : Option Value) (o3 : Option Value) (o4 : Option Value) (o5 : Option Value) (o6 : Option Value) (o7 : Option Value) (o8 : Option Value) (o9 : Option Value) (o10 : Option Value) (o11 : Option Value) (o12 : Option Value)  : zeRun 191 173 [some (.ref 16), o1, o2, o3, o4, o5, o6, o7, o8, o9, o10, o11, o12] [] (zk B im lm) = zeBh 191 179 [some (.ref 16), o1, o2, o3, o4, o5, o6, o7, o8, o9, o10, o11, o12] [] (zeRun 177 0 [some (.ref 16), some (.int 11)] [] (zk B im lm)) := ze_call (ok := true) rfl 3 rfl rfl rfl
theorem d_191_179 {B : zeB} {im : Nat → Nat → Int32} {lm : Nat → Nat → Int64} (o0 : Option Value) (o1 : Option Value) (o2 : Option Value) (o3 : Option Value) (o4 : Option Value) (o5 : Option Value) (o6 : Option Value) (o7 : Option Value) (o8 : Option Value) (o9 : Option Value) (o10 : Option Value) (o11 : Option Value) (o12 : Option Value) (s0 : Int32)  : zeRun 191 179 [o0, o1, o2, o3, o4, o5, o6, o7, o8, o9, o10, o11, o12] [.int s0] (zk B im lm) = if s0 = 1 then zeRun 191 183 [o0, o1, o2, o3, o4, o5, o6, o7, o8, o9, o10, o11, o12] [] (zk B im lm) else zeRun 191 187 [o0, o1, o2, o3, o4, o5, o6, o7, o8, o9, o10, o11, o12] [] (zk B im lm) := ze_if (ok := true) rfl 2 rfl rfl
theorem d_191_183 {B : zeB} {im : Nat → Nat → Int32} {lm : Nat → Nat → Int64} (o0 : Option Value) (o1 : Option Value) (o2 : Option Value) (o3 : Option Value) (o4 : Option Value) (o5 : Option Value) (o6 : Option Value) (o7 : Option Value) (o8 : Option Value) (o9 : Option Value) (o10 : Option Value) (o11 : Option Value) (o12 : Option Value)  : zeRun 191 183 [o0, o1, o2, o3, o4, o5, o6, o7, o8, o9, o10, o11, o12] [] (zk B im lm) = some (some (.int 1), (zk B im lm)) := ze_ret (ok := true) rfl 3 rfl rfl
theorem d_191_187 {B : zeB} {im : Nat → Nat → Int32} {lm : Nat → Nat → Int64} (o0 : Option Value) (o1 : Option Value) (o2 : Option Value) (o3 : Option Value) (o4 : Option Value) (o5 : Option Value) (o6 : Option Value) (o7 : Option Value) (o8 : Option Value) (o9 : Option Value) (o10 : Option Value) (o11 : Option Value) (o12 : Option Value)  : zeRun 191 187 [o0, o1, o2, o3, o4, o5, o6, o7, o8, o9, o10, o11, o12] [] (zk B im lm) = some (some (.int 0), (zk B im lm)) := ze_ret (ok := true) rfl 2 rfl rfl
theorem d_191_112 {B : zeB} {im : Nat → Nat → Int32} {lm : Nat → Nat → Int64} (o1 : Option Value) (o2 : Option Value) (o3 : Option Value) (o4 : Option Value) (o5 : Option Value) (o6 : Option Value) (o7 : Option Value) (o8 : Option Value) (o9 : Option Value) (l10 : Int32) (l11 : Int32) (o12 : Option Value)  : zeRun 191 112 [some (.ref 16), o1, o2, o3, o4, o5, o6, o7, o8, o9, some (.int l10), some (.int l11), o12] [] (zk B im lm) = if l10 = (-10000003) then zeRun 191 119 [some (.ref 16), o1, o2, o3, o4, o5, o6, o7, o8, o9, some (.int l10), some (.int l11), o12] [] (zk B im lm) else zeRun 191 134 [some (.ref 16), o1, o2, o3, o4, o5, o6, o7, o8, o9, some (.int l10), some (.int l11), o12] [] (zk B im lm) := ze_if (ok := true) rfl 3 rfl rfl
theorem d_191_119 {B : zeB} {im : Nat → Nat → Int32} {lm : Nat → Nat → Int64} (o1 : Option Value) (o2 : Option Value) (o3 : Option Value) (o4 : Option Value) (o5 : Option Value) (o6 : Option Value) (o7 : Option Value) (o8 : Option Value) (o9 : Option Value) (o10 : Option Value) (l11 : Int32) (o12 : Option Value)  : zeRun 191 119 [some (.ref 16), o1, o2, o3, o4, o5, o6, o7, o8, o9, o10, some (.int l11), o12] [] (zk B im lm) = zeBh 191 125 [some (.ref 16), o1, o2, o3, o4, o5, o6, o7, o8, o9, o10, some (.int l11), o12] [] (zeRun 177 0 [some (.ref 16), some (.int 11)] [] (zk B im lm)) := ze_call (ok := true) rfl 3 rfl rfl rfl
theorem d_191_125 {B : zeB} {im : Nat → Nat → Int32} {lm : Nat → Nat → Int64} (o0 : Option Value) (o1 : Option Value) (o2 : Option Value) (o3 : Option Value) (o4 : Option Value) (o5 : Option Value) (o6 : Option Value) (o7 : Option Value) (o8 : Option Value) (o9 : Option Value) (o10 : Option Value) (l11 : Int32) (o12 : Option Value) (s0 : Int32)  : zeRun 191 125 [o0, o1, o2, o3, o4, o5, o6, o7, o8, o9, o10, some (.int l11), o12] [.int s0] (zk B im lm) = if s0 = l11 then zeRun 191 130 [o0, o1, o2, o3, o4, o5, o6, o7, o8, o9, o10, some (.int l11), o12] [] (zk B im lm) else zeRun 191 134 [o0, o1, o2, o3, o4, o5, o6, o7, o8, o9, o10, some (.int l11), o12] [] (zk B im lm) := ze_if (ok := true) rfl 2 rfl rfl
theorem d_191_130 {B : zeB} {im : Nat → Nat → Int32} {lm : Nat → Nat → Int64} (o0 : Option Value) (o1 : Option Value) (o2 : Option Value) (o3 : Option Value) (o4 : Option Value) (o5 : Option Value) (o6 : Option Value) (o7 : Option Value) (o8 : Option Value) (o9 : Option Value) (o10 : Option Value) (o11 : Option Value) (o12 : Option Value)  : zeRun 191 130 [o0, o1, o2, o3, o4, o5, o6, o7, o8, o9, o10, o11, o12] [] (zk B im lm) = some (some (.int 1), (zk B im lm)) := ze_ret (ok := true) rfl 3 rfl rfl
theorem d_191_134 {B : zeB} {im : Nat → Nat → Int32} {lm : Nat → Nat → Int64} (o0 : Option Value) (o1 : Option Value) (o2 : Option Value) (o3 : Option Value) (o4 : Option Value) (o5 : Option Value) (o6 : Option Value) (o7 : Option Value) (o8 : Option Value) (o9 : Option Value) (o10 : Option Value) (o11 : Option Value) (o12 : Option Value)  : zeRun 191 134 [o0, o1, o2, o3, o4, o5, o6, o7, o8, o9, o10, o11, o12] [] (zk B im lm) = some (some (.int 0), (zk B im lm)) := ze_ret (ok := true) rfl 3 rfl rfl
def J_191_1004  (l7 : Int32) (l8 : Int32) (s1 : Int32) (im : zI) (lm : zJ) : zR :=
    zBd (m_86 s1 im lm) fun v1 im1 lm1 =>
    if l8 = 60 then
      some (if v1 = (-10000003) then 1 else 0, im1, lm1)
    else
      zBd (m_156 l7 0 im1 lm1) fun v2 im2 lm2 =>
      if v1 = v2 then
        zBd (m_172 l8 0 im2 lm2) fun v3 im3 lm3 =>
        if v3 = l7 then
          zBd (m_172 l8 1 im3 lm3) fun v4 im4 lm4 =>
          if v4 = 3 then
            zBd (m_172 l8 3 im4 lm4) fun v5 im5 lm5 =>
            zBd (m_156 l7 6 im5 lm5) fun v6 im6 lm6 =>
            if v5 = v6 then
              zBd (m_177 14 im6 lm6) fun v7 im7 lm7 =>
              some (if v7 = l7 then 0 else 1, im7, lm7)
            else
              some (0, im6, lm6)
          else
            some (0, im4, lm4)
        else
          some (0, im3, lm3)
      else
        some (0, im2, lm2)
theorem J_191_1004_ok {B : zeB} (l7 : Int32) (l8 : Int32) (s1 : Int32) (o1 : Option Value) (o2 : Option Value) (o3 : Option Value) (o4 : Option Value) (o5 : Option Value) (o6 : Option Value) (o9 : Option Value) (o10 : Option Value) (o11 : Option Value) (o12 : Option Value) (im : zI) (lm : zJ) : zL B 1 (J_191_1004  l7 l8 s1 im lm) (zeRun 191 1004 [some (.ref 16), o1, o2, o3, o4, o5, o6, some (.int l7), some (.int l8), o9, o10, o11, o12] [.int s1, .ref 16] (zk B im lm)) := by
  unfold J_191_1004
  refine zL_bd (d_191_1004 _ _ _ _ _ _ _ _ _ _ _ _ _) (m_86_ok _ _ _) fun v1 im1 lm1 => ?_
  refine zL_if (d_191_1007 _ _ _ _ _ _ _ _ _ _ _ _ _) (fun h => ?_) (fun h => ?_)
  · skip
    refine zL_ifm (d_191_1016 _ _ _ _ _ _ _ _ _ _ _ _ _) (fun h => ?_) (fun h => ?_)
    · repeat rw [if_pos h]
      exact zL_ret (d_191_1023 _ _ _ _ _ _ _ _ _ _ _ _ _)
    · repeat rw [if_neg h]
      exact zL_ret (d_191_1027 _ _ _ _ _ _ _ _ _ _ _ _ _)
  · skip
    refine zL_bd (d_191_1031 _ _ _ _ _ _ _ _ _ _ _ _) (m_156_ok _ _ _ _) fun v2 im2 lm2 => ?_
    refine zL_if (d_191_1040 _ _ _ _ _ _ _ _ _ _ _ _ _ _) (fun h => ?_) (fun h => ?_)
    · skip
      refine zL_bd (d_191_1043 _ _ _ _ _ _ _ _ _ _ _ _) (m_172_ok _ _ _ _) fun v3 im3 lm3 => ?_
      refine zL_if (d_191_1050 _ _ _ _ _ _ _ _ _ _ _ _ _) (fun h => ?_) (fun h => ?_)
      · skip
        refine zL_bd (d_191_1055 _ _ _ _ _ _ _ _ _ _ _ _) (m_172_ok _ _ _ _) fun v4 im4 lm4 => ?_
        refine zL_if (d_191_1062 _ _ _ _ _ _ _ _ _ _ _ _ _) (fun h => ?_) (fun h => ?_)
        · skip
          refine zL_bd (d_191_1066 _ _ _ _ _ _ _ _ _ _ _ _) (m_172_ok _ _ _ _) fun v5 im5 lm5 => ?_
          refine zL_bd (d_191_1073 _ _ _ _ _ _ _ _ _ _ _ _ _) (m_156_ok _ _ _ _) fun v6 im6 lm6 => ?_
          refine zL_if (d_191_1081 _ _ _ _ _ _ _ _ _ _ _ _ _ _) (fun h => ?_) (fun h => ?_)
          · skip
            refine zL_bd (d_191_1084 _ _ _ _ _ _ _ _ _ _ _ _) (m_177_ok _ _ _) fun v7 im7 lm7 => ?_
            refine zL_ifm (d_191_1090 _ _ _ _ _ _ _ _ _ _ _ _ _ _) (fun h => ?_) (fun h => ?_)
            · repeat rw [if_pos h]
              exact zL_ret (d_191_1099 _ _ _ _ _ _ _ _ _ _ _ _ _)
            · repeat rw [if_neg h]
              exact zL_ret (d_191_1095 _ _ _ _ _ _ _ _ _ _ _ _ _)
          · skip
            exact zL_ret (d_191_1099 _ _ _ _ _ _ _ _ _ _ _ _ _)
        · skip
          exact zL_ret (d_191_1099 _ _ _ _ _ _ _ _ _ _ _ _ _)
      · skip
        exact zL_ret (d_191_1099 _ _ _ _ _ _ _ _ _ _ _ _ _)
    · skip
      exact zL_ret (d_191_1099 _ _ _ _ _ _ _ _ _ _ _ _ _)
def J_191_961  (s0 : Int32) (s1 : Int32) (im : zI) (lm : zJ) : zR :=
    some (if s0 = s1 then 1 else 0, im, lm)
theorem J_191_961_ok {B : zeB} (s0 : Int32) (s1 : Int32) (o0 : Option Value) (o1 : Option Value) (o2 : Option Value) (o3 : Option Value) (o4 : Option Value) (o5 : Option Value) (o6 : Option Value) (o7 : Option Value) (o8 : Option Value) (o9 : Option Value) (o10 : Option Value) (o11 : Option Value) (o12 : Option Value) (im : zI) (lm : zJ) : zL B 1 (J_191_961  s0 s1 im lm) (zeRun 191 961 [o0, o1, o2, o3, o4, o5, o6, o7, o8, o9, o10, o11, o12] [.int s1, .int s0] (zk B im lm)) := by
  unfold J_191_961
  refine zL_ifm (d_191_961 _ _ _ _ _ _ _ _ _ _ _ _ _ _ _) (fun h => ?_) (fun h => ?_)
  · repeat rw [if_pos h]
    exact zL_ret (d_191_964 _ _ _ _ _ _ _ _ _ _ _ _ _)
  · repeat rw [if_neg h]
    exact zL_ret (d_191_968 _ _ _ _ _ _ _ _ _ _ _ _ _)
def J_191_760  (l5 : Int32) (l7 : Int32) (s1 : Int32) (im : zI) (lm : zJ) : zR :=
    zBd (m_86 s1 im lm) fun v1 im1 lm1 =>
    if l7 = 60 then
      if v1 = (-10000003) then
        zBd (m_177 11 im1 lm1) fun v2 im2 lm2 =>
        some (if v2 = 7 then 1 else 0, im2, lm2)
      else
        some (0, im1, lm1)
    else
      zBd (m_156 l5 0 im1 lm1) fun v3 im3 lm3 =>
      if v1 = v3 then
        zBd (m_172 l7 0 im3 lm3) fun v4 im4 lm4 =>
        if v4 = l5 then
          zBd (m_172 l7 1 im4 lm4) fun v5 im5 lm5 =>
          if v5 = 2 then
            zBd (m_177 0 im5 lm5) fun v6 im6 lm6 =>
            some (if v6 = 0 then 1 else 0, im6, lm6)
          else
            some (0, im5, lm5)
        else
          some (0, im4, lm4)
      else
        some (0, im3, lm3)
theorem J_191_760_ok {B : zeB} (l5 : Int32) (l7 : Int32) (s1 : Int32) (o1 : Option Value) (o2 : Option Value) (o3 : Option Value) (o4 : Option Value) (o6 : Option Value) (o8 : Option Value) (o9 : Option Value) (o10 : Option Value) (o11 : Option Value) (o12 : Option Value) (im : zI) (lm : zJ) : zL B 1 (J_191_760  l5 l7 s1 im lm) (zeRun 191 760 [some (.ref 16), o1, o2, o3, o4, some (.int l5), o6, some (.int l7), o8, o9, o10, o11, o12] [.int s1, .ref 16] (zk B im lm)) := by
  unfold J_191_760
  refine zL_bd (d_191_760 _ _ _ _ _ _ _ _ _ _ _ _ _) (m_86_ok _ _ _) fun v1 im1 lm1 => ?_
  refine zL_if (d_191_763 _ _ _ _ _ _ _ _ _ _ _ _ _) (fun h => ?_) (fun h => ?_)
  · skip
    refine zL_if (d_191_772 _ _ _ _ _ _ _ _ _ _ _ _) (fun h => ?_) (fun h => ?_)
    · skip
      refine zL_bd (d_191_779 _ _ _ _ _ _ _ _ _ _ _ _) (m_177_ok _ _ _) fun v2 im2 lm2 => ?_
      refine zL_ifm (d_191_785 _ _ _ _ _ _ _ _ _ _ _ _ _ _) (fun h => ?_) (fun h => ?_)
      · repeat rw [if_pos h]
        exact zL_ret (d_191_790 _ _ _ _ _ _ _ _ _ _ _ _ _)
      · repeat rw [if_neg h]
        exact zL_ret (d_191_794 _ _ _ _ _ _ _ _ _ _ _ _ _)
    · skip
      exact zL_ret (d_191_794 _ _ _ _ _ _ _ _ _ _ _ _ _)
  · skip
    refine zL_bd (d_191_798 _ _ _ _ _ _ _ _ _ _ _ _) (m_156_ok _ _ _ _) fun v3 im3 lm3 => ?_
    refine zL_if (d_191_807 _ _ _ _ _ _ _ _ _ _ _ _ _ _) (fun h => ?_) (fun h => ?_)
    · skip
      refine zL_bd (d_191_810 _ _ _ _ _ _ _ _ _ _ _ _) (m_172_ok _ _ _ _) fun v4 im4 lm4 => ?_
      refine zL_if (d_191_817 _ _ _ _ _ _ _ _ _ _ _ _ _) (fun h => ?_) (fun h => ?_)
      · skip
        refine zL_bd (d_191_822 _ _ _ _ _ _ _ _ _ _ _ _) (m_172_ok _ _ _ _) fun v5 im5 lm5 => ?_
        refine zL_if (d_191_829 _ _ _ _ _ _ _ _ _ _ _ _ _) (fun h => ?_) (fun h => ?_)
        · skip
          refine zL_bd (d_191_833 _ _ _ _ _ _ _ _ _ _ _ _) (m_177_ok _ _ _) fun v6 im6 lm6 => ?_
          refine zL_ifm (d_191_838 _ _ _ _ _ _ _ _ _ _ _ _ _ _) (fun h => ?_) (fun h => ?_)
          · repeat rw [if_pos h]
            exact zL_ret (d_191_841 _ _ _ _ _ _ _ _ _ _ _ _ _)
          · repeat rw [if_neg h]
            exact zL_ret (d_191_845 _ _ _ _ _ _ _ _ _ _ _ _ _)
        · skip
          exact zL_ret (d_191_845 _ _ _ _ _ _ _ _ _ _ _ _ _)
      · skip
        exact zL_ret (d_191_845 _ _ _ _ _ _ _ _ _ _ _ _ _)
    · skip
      exact zL_ret (d_191_845 _ _ _ _ _ _ _ _ _ _ _ _ _)
def J_191_651  (l2 : Int32) (s0 : Int32) (im : zI) (lm : zJ) : zR :=
    zBd (m_189 l2 1500 im lm) fun v1 im1 lm1 =>
    zBd (m_98 v1 im1 lm1) fun v2 im2 lm2 =>
    if v1 ≤ s0 then
      if v2 = s0 then
        zBd (m_177 0 im2 lm2) fun v3 im3 lm3 =>
        if v3 = 3 then
          zBd (m_98 0 im3 lm3) fun v4 im4 lm4 =>
          some (if v4 = (-10000003) then 1 else 0, im4, lm4)
        else
          some (0, im3, lm3)
      else
        some (0, im2, lm2)
    else
      if v2 = (-10000003) then
        zBd (m_177 11 im2 lm2) fun v5 im5 lm5 =>
        some (if v5 = 5 then 1 else 0, im5, lm5)
      else
        some (0, im2, lm2)
theorem J_191_651_ok {B : zeB} (l2 : Int32) (s0 : Int32) (o1 : Option Value) (o3 : Option Value) (o4 : Option Value) (o5 : Option Value) (o6 : Option Value) (o7 : Option Value) (o8 : Option Value) (o9 : Option Value) (o10 : Option Value) (o11 : Option Value) (o12 : Option Value) (im : zI) (lm : zJ) : zL B 1 (J_191_651  l2 s0 im lm) (zeRun 191 651 [some (.ref 16), o1, some (.int l2), o3, o4, o5, o6, o7, o8, o9, o10, o11, o12] [.int s0] (zk B im lm)) := by
  unfold J_191_651
  refine zL_bd (d_191_651 _ _ _ _ _ _ _ _ _ _ _ _ _) (m_189_ok _ _ _ _) fun v1 im1 lm1 => ?_
  refine zL_bd (d_191_660 _ _ _ _ _ _ _ _ _ _ _ _ _) (m_98_ok _ _ _) fun v2 im2 lm2 => ?_
  refine zL_if (d_191_668 _ _ _ _ _ _ _ _ _ _ _ _ _) (fun h => ?_) (fun h => ?_)
  · skip
    refine zL_if (d_191_702 _ _ _ _ _ _ _ _ _ _ _ _) (fun h => ?_) (fun h => ?_)
    · skip
      refine zL_bd (d_191_709 _ _ _ _ _ _ _ _ _ _ _ _) (m_177_ok _ _ _) fun v3 im3 lm3 => ?_
      refine zL_if (d_191_714 _ _ _ _ _ _ _ _ _ _ _ _ _) (fun h => ?_) (fun h => ?_)
      · skip
        refine zL_bd (d_191_718 _ _ _ _ _ _ _ _ _ _ _ _) (m_98_ok _ _ _) fun v4 im4 lm4 => ?_
        refine zL_ifm (d_191_723 _ _ _ _ _ _ _ _ _ _ _ _ _ _) (fun h => ?_) (fun h => ?_)
        · repeat rw [if_pos h]
          exact zL_ret (d_191_728 _ _ _ _ _ _ _ _ _ _ _ _ _)
        · repeat rw [if_neg h]
          exact zL_ret (d_191_732 _ _ _ _ _ _ _ _ _ _ _ _ _)
      · skip
        exact zL_ret (d_191_732 _ _ _ _ _ _ _ _ _ _ _ _ _)
    · skip
      exact zL_ret (d_191_732 _ _ _ _ _ _ _ _ _ _ _ _ _)
  · skip
    refine zL_if (d_191_677 _ _ _ _ _ _ _ _ _ _ _ _) (fun h => ?_) (fun h => ?_)
    · skip
      refine zL_bd (d_191_684 _ _ _ _ _ _ _ _ _ _ _ _) (m_177_ok _ _ _) fun v5 im5 lm5 => ?_
      refine zL_ifm (d_191_690 _ _ _ _ _ _ _ _ _ _ _ _ _ _) (fun h => ?_) (fun h => ?_)
      · repeat rw [if_pos h]
        exact zL_ret (d_191_694 _ _ _ _ _ _ _ _ _ _ _ _ _)
      · repeat rw [if_neg h]
        exact zL_ret (d_191_698 _ _ _ _ _ _ _ _ _ _ _ _ _)
    · skip
      exact zL_ret (d_191_698 _ _ _ _ _ _ _ _ _ _ _ _ _)
def J_191_595  (l9 : Int32) (l11 : Int32) (s0 : Int32) (s1 : Int32) (im : zI) (lm : zJ) : zR :=
    if s0 = s1 then
      if l11 = 0 then
        zBd (m_166 0 im lm) fun v1 im1 lm1 =>
        some (if v1 = l9 then 0 else 1, im1, lm1)
      else
        some (1, im, lm)
    else
      some (0, im, lm)
theorem J_191_595_ok {B : zeB} (l9 : Int32) (l11 : Int32) (s0 : Int32) (s1 : Int32) (o1 : Option Value) (o2 : Option Value) (o3 : Option Value) (o4 : Option Value) (o5 : Option Value) (o6 : Option Value) (o7 : Option Value) (o8 : Option Value) (o10 : Option Value) (o12 : Option Value) (im : zI) (lm : zJ) : zL B 1 (J_191_595  l9 l11 s0 s1 im lm) (zeRun 191 595 [some (.ref 16), o1, o2, o3, o4, o5, o6, o7, o8, some (.int l9), o10, some (.int l11), o12] [.int s1, .int s0] (zk B im lm)) := by
  unfold J_191_595
  refine zL_if (d_191_595 _ _ _ _ _ _ _ _ _ _ _ _ _ _) (fun h => ?_) (fun h => ?_)
  · skip
    refine zL_if (d_191_598 _ _ _ _ _ _ _ _ _ _ _ _) (fun h => ?_) (fun h => ?_)
    · skip
      refine zL_bd (d_191_603 _ _ _ _ _ _ _ _ _ _ _ _) (m_166_ok _ _ _) fun v1 im1 lm1 => ?_
      refine zL_ifm (d_191_608 _ _ _ _ _ _ _ _ _ _ _ _ _ _) (fun h => ?_) (fun h => ?_)
      · repeat rw [if_pos h]
        exact zL_ret (d_191_617 _ _ _ _ _ _ _ _ _ _ _ _ _)
      · repeat rw [if_neg h]
        exact zL_ret (d_191_613 _ _ _ _ _ _ _ _ _ _ _ _ _)
    · skip
      exact zL_ret (d_191_613 _ _ _ _ _ _ _ _ _ _ _ _ _)
  · skip
    exact zL_ret (d_191_617 _ _ _ _ _ _ _ _ _ _ _ _ _)
def J_191_577  (l9 : Int32) (l11 : Int32) (s0 : Int32) (s1 : Int32) (im : zI) (lm : zJ) : zR :=
    if s0 = s1 then
      zBd (m_177 0 im lm) fun v1 im1 lm1 =>
      J_191_595   l9 l11 v1 (if l11 = 0 then 1 else 0) im1 lm1
    else
      some (0, im, lm)
theorem J_191_577_ok {B : zeB} (l9 : Int32) (l11 : Int32) (s0 : Int32) (s1 : Int32) (o1 : Option Value) (o2 : Option Value) (o3 : Option Value) (o4 : Option Value) (o5 : Option Value) (o6 : Option Value) (o7 : Option Value) (o8 : Option Value) (o10 : Option Value) (o12 : Option Value) (im : zI) (lm : zJ) : zL B 1 (J_191_577  l9 l11 s0 s1 im lm) (zeRun 191 577 [some (.ref 16), o1, o2, o3, o4, o5, o6, o7, o8, some (.int l9), o10, some (.int l11), o12] [.int s1, .int s0] (zk B im lm)) := by
  unfold J_191_577
  refine zL_if (d_191_577 _ _ _ _ _ _ _ _ _ _ _ _ _ _) (fun h => ?_) (fun h => ?_)
  · skip
    refine zL_bd (d_191_580 _ _ _ _ _ _ _ _ _ _ _ _) (m_177_ok _ _ _) fun v1 im1 lm1 => ?_
    refine zL_ifm (d_191_585 _ _ _ _ _ _ _ _ _ _ _ _ _) (fun h => ?_) (fun h => ?_)
    · repeat rw [if_pos h]
      refine zL_eq (d_191_594 _ _ _ _ _ _ _ _ _ _ _ _ _) ?_
      exact J_191_595_ok   _ _ _ _ _ _ _ _ _ _ _ _ _ _ _ _
    · repeat rw [if_neg h]
      refine zL_eq (d_191_590 _ _ _ _ _ _ _ _ _ _ _ _ _) ?_
      exact J_191_595_ok   _ _ _ _ _ _ _ _ _ _ _ _ _ _ _ _
  · skip
    exact zL_ret (d_191_617 _ _ _ _ _ _ _ _ _ _ _ _ _)
def J_191_527  (s0 : Int32) (s1 : Int32) (im : zI) (lm : zJ) : zR :=
    some (if s0 = s1 then 1 else 0, im, lm)
theorem J_191_527_ok {B : zeB} (s0 : Int32) (s1 : Int32) (o0 : Option Value) (o1 : Option Value) (o2 : Option Value) (o3 : Option Value) (o4 : Option Value) (o5 : Option Value) (o6 : Option Value) (o7 : Option Value) (o8 : Option Value) (o9 : Option Value) (o10 : Option Value) (o11 : Option Value) (o12 : Option Value) (im : zI) (lm : zJ) : zL B 1 (J_191_527  s0 s1 im lm) (zeRun 191 527 [o0, o1, o2, o3, o4, o5, o6, o7, o8, o9, o10, o11, o12] [.int s1, .int s0] (zk B im lm)) := by
  unfold J_191_527
  refine zL_ifm (d_191_527 _ _ _ _ _ _ _ _ _ _ _ _ _ _ _) (fun h => ?_) (fun h => ?_)
  · repeat rw [if_pos h]
    exact zL_ret (d_191_530 _ _ _ _ _ _ _ _ _ _ _ _ _)
  · repeat rw [if_neg h]
    exact zL_ret (d_191_534 _ _ _ _ _ _ _ _ _ _ _ _ _)
def J_191_503  (l9 : Int32) (l12 : Int32) (im : zI) (lm : zJ) : zR :=
    if l12 = (-10000003) then
      zBd (m_177 11 im lm) fun v1 im1 lm1 =>
      J_191_527   v1 (if 0 ≤ l9 then 7 else 4) im1 lm1
    else
      some (0, im, lm)
theorem J_191_503_ok {B : zeB} (l9 : Int32) (l12 : Int32) (o1 : Option Value) (o2 : Option Value) (o3 : Option Value) (o4 : Option Value) (o5 : Option Value) (o6 : Option Value) (o7 : Option Value) (o8 : Option Value) (o10 : Option Value) (o11 : Option Value) (im : zI) (lm : zJ) : zL B 1 (J_191_503  l9 l12 im lm) (zeRun 191 503 [some (.ref 16), o1, o2, o3, o4, o5, o6, o7, o8, some (.int l9), o10, o11, some (.int l12)] [] (zk B im lm)) := by
  unfold J_191_503
  refine zL_if (d_191_503 _ _ _ _ _ _ _ _ _ _ _ _) (fun h => ?_) (fun h => ?_)
  · skip
    refine zL_bd (d_191_510 _ _ _ _ _ _ _ _ _ _ _ _) (m_177_ok _ _ _) fun v1 im1 lm1 => ?_
    refine zL_ifm (d_191_516 _ _ _ _ _ _ _ _ _ _ _ _ _ _) (fun h => ?_) (fun h => ?_)
    · repeat rw [if_pos h]
      refine zL_eq (d_191_525 _ _ _ _ _ _ _ _ _ _ _ _ _ _) ?_
      exact J_191_527_ok   _ _ _ _ _ _ _ _ _ _ _ _ _ _ _ _ _
    · repeat rw [if_neg h]
      refine zL_eq (d_191_521 _ _ _ _ _ _ _ _ _ _ _ _ _ _) ?_
      exact J_191_527_ok   _ _ _ _ _ _ _ _ _ _ _ _ _ _ _ _ _
  · skip
    exact zL_ret (d_191_534 _ _ _ _ _ _ _ _ _ _ _ _ _)
def J_191_481  (l8 : Int32) (l9 : Int32) (l10 : Int32) (s0 : Int32) (im : zI) (lm : zJ) : zR :=
    zBd (m_86 s0 im lm) fun v1 im1 lm1 =>
    if l9 < 0 then
      J_191_503   l9 v1 im1 lm1
    else
      if l10 = 60 then
        J_191_503   l9 v1 im1 lm1
      else
        zBd (m_156 l9 0 im1 lm1) fun v2 im2 lm2 =>
        if v1 = v2 then
          zBd (m_172 l10 0 im2 lm2) fun v3 im3 lm3 =>
          if v3 = l9 then
            zBd (m_172 l10 1 im3 lm3) fun v4 im4 lm4 =>
            J_191_577   l9 s0 v4 (if l8 = 0 then 0 else 1) im4 lm4
          else
            some (0, im3, lm3)
        else
          some (0, im2, lm2)
theorem J_191_481_ok {B : zeB} (l8 : Int32) (l9 : Int32) (l10 : Int32) (s0 : Int32) (o1 : Option Value) (o2 : Option Value) (o3 : Option Value) (o4 : Option Value) (o5 : Option Value) (o6 : Option Value) (o7 : Option Value) (o11 : Option Value) (o12 : Option Value) (im : zI) (lm : zJ) : zL B 1 (J_191_481  l8 l9 l10 s0 im lm) (zeRun 191 481 [some (.ref 16), o1, o2, o3, o4, o5, o6, o7, some (.int l8), some (.int l9), some (.int l10), o11, o12] [.int s0] (zk B im lm)) := by
  unfold J_191_481
  refine zL_bd (d_191_481 _ _ _ _ _ _ _ _ _ _ _ _ _) (m_86_ok _ _ _) fun v1 im1 lm1 => ?_
  refine zL_if (d_191_489 _ _ _ _ _ _ _ _ _ _ _ _ _) (fun h => ?_) (fun h => ?_)
  · skip
    exact J_191_503_ok   _ _ _ _ _ _ _ _ _ _ _ _ _ _
  · skip
    refine zL_if (d_191_496 _ _ _ _ _ _ _ _ _ _ _ _) (fun h => ?_) (fun h => ?_)
    · skip
      exact J_191_503_ok   _ _ _ _ _ _ _ _ _ _ _ _ _ _
    · skip
      refine zL_bd (d_191_536 _ _ _ _ _ _ _ _ _ _ _ _) (m_156_ok _ _ _ _) fun v2 im2 lm2 => ?_
      refine zL_if (d_191_545 _ _ _ _ _ _ _ _ _ _ _ _ _ _) (fun h => ?_) (fun h => ?_)
      · skip
        refine zL_bd (d_191_548 _ _ _ _ _ _ _ _ _ _ _ _) (m_172_ok _ _ _ _) fun v3 im3 lm3 => ?_
        refine zL_if (d_191_555 _ _ _ _ _ _ _ _ _ _ _ _ _) (fun h => ?_) (fun h => ?_)
        · skip
          refine zL_bd (d_191_560 _ _ _ _ _ _ _ _ _ _ _ _) (m_172_ok _ _ _ _) fun v4 im4 lm4 => ?_
          refine zL_ifm (d_191_567 _ _ _ _ _ _ _ _ _ _ _ _ _) (fun h => ?_) (fun h => ?_)
          · repeat rw [if_pos h]
            refine zL_eq (d_191_572 _ _ _ _ _ _ _ _ _ _ _ _ _) ?_
            exact J_191_577_ok   _ _ _ _ _ _ _ _ _ _ _ _ _ _ _ _
          · repeat rw [if_neg h]
            refine zL_eq (d_191_576 _ _ _ _ _ _ _ _ _ _ _ _ _) ?_
            exact J_191_577_ok   _ _ _ _ _ _ _ _ _ _ _ _ _ _ _ _
        · skip
          exact zL_ret (d_191_617 _ _ _ _ _ _ _ _ _ _ _ _ _)
      · skip
        exact zL_ret (d_191_617 _ _ _ _ _ _ _ _ _ _ _ _ _)
def J_191_455  (l1 : Int32) (l8 : Int32) (im : zI) (lm : zJ) : zR :=
    zBd (m_166 0 im lm) fun v1 im1 lm1 =>
    zBd (m_177 5 im1 lm1) fun v2 im2 lm2 =>
    J_191_481   l8 v1 v2 (if (l1 &&& 64) = 0 then 1 else 0) im2 lm2
theorem J_191_455_ok {B : zeB} (l1 : Int32) (l8 : Int32) (o2 : Option Value) (o3 : Option Value) (o4 : Option Value) (o5 : Option Value) (o6 : Option Value) (o7 : Option Value) (o9 : Option Value) (o10 : Option Value) (o11 : Option Value) (o12 : Option Value) (im : zI) (lm : zJ) : zL B 1 (J_191_455  l1 l8 im lm) (zeRun 191 455 [some (.ref 16), some (.int l1), o2, o3, o4, o5, o6, o7, some (.int l8), o9, o10, o11, o12] [] (zk B im lm)) := by
  unfold J_191_455
  refine zL_bd (d_191_455 _ _ _ _ _ _ _ _ _ _ _ _) (m_166_ok _ _ _) fun v1 im1 lm1 => ?_
  refine zL_bd (d_191_460 _ _ _ _ _ _ _ _ _ _ _ _ _) (m_177_ok _ _ _) fun v2 im2 lm2 => ?_
  refine zL_ifm (d_191_467 _ _ _ _ _ _ _ _ _ _ _ _ _) (fun h => ?_) (fun h => ?_)
  · repeat rw [if_pos h]
    refine zL_eq (d_191_476 _ _ _ _ _ _ _ _ _ _ _ _) ?_
    exact J_191_481_ok   _ _ _ _ _ _ _ _ _ _ _ _ _ _ _
  · repeat rw [if_neg h]
    refine zL_eq (d_191_480 _ _ _ _ _ _ _ _ _ _ _ _) ?_
    exact J_191_481_ok   _ _ _ _ _ _ _ _ _ _ _ _ _ _ _
def J_191_402  (l1 : Int32) (l2 : Int32) (im : zI) (lm : zJ) : zR :=
    zBd (m_177 3 im lm) fun v1 im1 lm1 =>
    zBd (m_169 v1 3 im1 lm1) fun v2 im2 lm2 =>
    if (l2 &&& 16) = 0 then
      if (l2 &&& 32) = 0 then
        zBd (m_93  im2 lm2) fun v3 im3 lm3 =>
        if v3 = v2 then
          zBd (m_177 0 im3 lm3) fun v4 im4 lm4 =>
          some (if v4 = 0 then 1 else 0, im4, lm4)
        else
          some (0, im3, lm3)
      else
        J_191_455   l1 v2 im2 lm2
    else
      J_191_455   l1 v2 im2 lm2
theorem J_191_402_ok {B : zeB} (l1 : Int32) (l2 : Int32) (o3 : Option Value) (o4 : Option Value) (o5 : Option Value) (o6 : Option Value) (o7 : Option Value) (o8 : Option Value) (o9 : Option Value) (o10 : Option Value) (o11 : Option Value) (o12 : Option Value) (im : zI) (lm : zJ) : zL B 1 (J_191_402  l1 l2 im lm) (zeRun 191 402 [some (.ref 16), some (.int l1), some (.int l2), o3, o4, o5, o6, o7, o8, o9, o10, o11, o12] [] (zk B im lm)) := by
  unfold J_191_402
  refine zL_bd (d_191_402 _ _ _ _ _ _ _ _ _ _ _ _) (m_177_ok _ _ _) fun v1 im1 lm1 => ?_
  refine zL_bd (d_191_407 _ _ _ _ _ _ _ _ _ _ _ _ _) (m_169_ok _ _ _ _) fun v2 im2 lm2 => ?_
  refine zL_if (d_191_416 _ _ _ _ _ _ _ _ _ _ _ _ _) (fun h => ?_) (fun h => ?_)
  · skip
    refine zL_if (d_191_425 _ _ _ _ _ _ _ _ _ _ _ _) (fun h => ?_) (fun h => ?_)
    · skip
      refine zL_bd (d_191_432 _ _ _ _ _ _ _ _ _ _ _ _) (m_93_ok _ _) fun v3 im3 lm3 => ?_
      refine zL_if (d_191_436 _ _ _ _ _ _ _ _ _ _ _ _ _) (fun h => ?_) (fun h => ?_)
      · skip
        refine zL_bd (d_191_441 _ _ _ _ _ _ _ _ _ _ _ _) (m_177_ok _ _ _) fun v4 im4 lm4 => ?_
        refine zL_ifm (d_191_446 _ _ _ _ _ _ _ _ _ _ _ _ _ _) (fun h => ?_) (fun h => ?_)
        · repeat rw [if_pos h]
          exact zL_ret (d_191_449 _ _ _ _ _ _ _ _ _ _ _ _ _)
        · repeat rw [if_neg h]
          exact zL_ret (d_191_453 _ _ _ _ _ _ _ _ _ _ _ _ _)
      · skip
        exact zL_ret (d_191_453 _ _ _ _ _ _ _ _ _ _ _ _ _)
    · skip
      exact J_191_455_ok   _ _ _ _ _ _ _ _ _ _ _ _ _ _
  · skip
    exact J_191_455_ok   _ _ _ _ _ _ _ _ _ _ _ _ _ _
def J_191_367  (l6 : Int32) (l7 : Int32) (s0 : Int32) (s1 : Int32) (im : zI) (lm : zJ) : zR :=
    if s0 = s1 then
      zBd (m_59 l6 l7 im lm) fun v1 im1 lm1 =>
      if v1 = (-10000005) then
        zBd (m_59 l6 100 im1 lm1) fun v2 im2 lm2 =>
        some (if v2 = (-10000002) then 1 else 0, im2, lm2)
      else
        some (0, im1, lm1)
    else
      some (0, im, lm)
theorem J_191_367_ok {B : zeB} (l6 : Int32) (l7 : Int32) (s0 : Int32) (s1 : Int32) (o1 : Option Value) (o2 : Option Value) (o3 : Option Value) (o4 : Option Value) (o5 : Option Value) (o8 : Option Value) (o9 : Option Value) (o10 : Option Value) (o11 : Option Value) (o12 : Option Value) (im : zI) (lm : zJ) : zL B 1 (J_191_367  l6 l7 s0 s1 im lm) (zeRun 191 367 [some (.ref 16), o1, o2, o3, o4, o5, some (.int l6), some (.int l7), o8, o9, o10, o11, o12] [.int s1, .int s0] (zk B im lm)) := by
  unfold J_191_367
  refine zL_if (d_191_367 _ _ _ _ _ _ _ _ _ _ _ _ _ _) (fun h => ?_) (fun h => ?_)
  · skip
    refine zL_bd (d_191_370 _ _ _ _ _ _ _ _ _ _ _ _) (m_59_ok _ _ _ _) fun v1 im1 lm1 => ?_
    refine zL_if (d_191_378 _ _ _ _ _ _ _ _ _ _ _ _ _) (fun h => ?_) (fun h => ?_)
    · skip
      refine zL_bd (d_191_383 _ _ _ _ _ _ _ _ _ _ _ _) (m_59_ok _ _ _ _) fun v2 im2 lm2 => ?_
      refine zL_ifm (d_191_391 _ _ _ _ _ _ _ _ _ _ _ _ _ _) (fun h => ?_) (fun h => ?_)
      · repeat rw [if_pos h]
        exact zL_ret (d_191_396 _ _ _ _ _ _ _ _ _ _ _ _ _)
      · repeat rw [if_neg h]
        exact zL_ret (d_191_400 _ _ _ _ _ _ _ _ _ _ _ _ _)
    · skip
      exact zL_ret (d_191_400 _ _ _ _ _ _ _ _ _ _ _ _ _)
  · skip
    exact zL_ret (d_191_400 _ _ _ _ _ _ _ _ _ _ _ _ _)
def J_191_299 (K251 : Int32 → Int32 → Int32 → Int32 → zI → zJ → zR) (l6 : Int32) (l7 : Int32) (l8 : Int32) (l9 : Int32) (l10 : Int32) (l11 : Int32) (s0 : Int32) (im : zI) (lm : zJ) : zR :=
    if l11 < 0 then
      some (0, im, lm)
    else
      if l11 < s0 then
        some (0, im, lm)
      else
        if l11 = s0 then
          zBd (m_166 (l9 - 1) im lm) fun v1 im1 lm1 =>
          zBd (m_156 v1 0 im1 lm1) fun v2 im2 lm2 =>
          zBd (m_156 l10 0 im2 lm2) fun v3 im3 lm3 =>
          if v2 ≤ v3 then
            K251 l6 l7 l8 (l9 + 1) im3 lm3
          else
            some (0, im3, lm3)
        else
          K251 l6 l7 l8 (l9 + 1) im lm
theorem J_191_299_ok {B : zeB} (K251 : Int32 → Int32 → Int32 → Int32 → zI → zJ → zR) (hK251 : ∀ (l6 : Int32) (l7 : Int32) (l8 : Int32) (l9 : Int32) (o1 : Option Value) (o2 : Option Value) (o3 : Option Value) (o4 : Option Value) (o5 : Option Value) (o10 : Option Value) (o11 : Option Value) (o12 : Option Value) (im : zI) (lm : zJ), zL B 1 (K251 l6 l7 l8 l9 im lm) (zeRun 191 251 [some (.ref 16), o1, o2, o3, o4, o5, some (.int l6), some (.int l7), some (.int l8), some (.int l9), o10, o11, o12] [] (zk B im lm))) (l6 : Int32) (l7 : Int32) (l8 : Int32) (l9 : Int32) (l10 : Int32) (l11 : Int32) (s0 : Int32) (o1 : Option Value) (o2 : Option Value) (o3 : Option Value) (o4 : Option Value) (o5 : Option Value) (o12 : Option Value) (im : zI) (lm : zJ) : zL B 1 (J_191_299 K251 l6 l7 l8 l9 l10 l11 s0 im lm) (zeRun 191 299 [some (.ref 16), o1, o2, o3, o4, o5, some (.int l6), some (.int l7), some (.int l8), some (.int l9), some (.int l10), some (.int l11), o12] [.int s0] (zk B im lm)) := by
  unfold J_191_299
  refine zL_if (d_191_299 _ _ _ _ _ _ _ _ _ _ _ _ _) (fun h => ?_) (fun h => ?_)
  · skip
    exact zL_ret (d_191_343 _ _ _ _ _ _ _ _ _ _ _ _ _)
  · skip
    refine zL_if (d_191_306 _ _ _ _ _ _ _ _ _ _ _ _) (fun h => ?_) (fun h => ?_)
    · skip
      exact zL_ret (d_191_343 _ _ _ _ _ _ _ _ _ _ _ _ _)
    · skip
      refine zL_if (d_191_313 _ _ _ _ _ _ _ _ _ _ _ _) (fun h => ?_) (fun h => ?_)
      · skip
        refine zL_bd (d_191_320 _ _ _ _ _ _ _ _ _ _ _ _) (m_166_ok _ _ _) fun v1 im1 lm1 => ?_
        refine zL_bd (d_191_329 _ _ _ _ _ _ _ _ _ _ _ _ _) (m_156_ok _ _ _ _) fun v2 im2 lm2 => ?_
        refine zL_bd (d_191_333 _ _ _ _ _ _ _ _ _ _ _ _ _) (m_156_ok _ _ _ _) fun v3 im3 lm3 => ?_
        refine zL_if (d_191_340 _ _ _ _ _ _ _ _ _ _ _ _ _ _) (fun h => ?_) (fun h => ?_)
        · skip
          refine zL_eq (d_191_345 _ _ _ _ _ _ _ _ _ _ _ _) ?_
          exact hK251 _ _ _ _ _ _ _ _ _ _ _ _ _ _
        · skip
          exact zL_ret (d_191_343 _ _ _ _ _ _ _ _ _ _ _ _ _)
      · skip
        refine zL_eq (d_191_345 _ _ _ _ _ _ _ _ _ _ _ _) ?_
        exact hK251 _ _ _ _ _ _ _ _ _ _ _ _ _ _
def F_191_251  : Nat → Int32 → Int32 → Int32 → Int32 → zI → zJ → zR
  | 0, _, _, _, _, _, _ => none
  | n + 1, l6, l7, l8, l9, im, lm =>
    zBd (m_166 l9 im lm) fun v1 im1 lm1 =>
    if v1 < 0 then
      J_191_367   l6 l7 l8 (if l8 = (-10000005) then l8 else l9) im1 lm1
    else
      zBd (m_166 l9 im1 lm1) fun v2 im2 lm2 =>
      zBd (m_156 v2 5 im2 lm2) fun v3 im3 lm3 =>
      if l9 = 0 then
        J_191_299 (F_191_251  n)  l6 l7 l8 l9 v2 v3 (-1) im3 lm3
      else
        zBd (m_166 (l9 - 1) im3 lm3) fun v4 im4 lm4 =>
        zBd (m_156 v4 5 im4 lm4) fun v5 im5 lm5 =>
        J_191_299 (F_191_251  n)  l6 l7 l8 l9 v2 v3 v5 im5 lm5
theorem F_191_251_ok {B : zeB} : ∀ (n : Nat) (l6 : Int32) (l7 : Int32) (l8 : Int32) (l9 : Int32) (o1 : Option Value) (o2 : Option Value) (o3 : Option Value) (o4 : Option Value) (o5 : Option Value) (o10 : Option Value) (o11 : Option Value) (o12 : Option Value) (im : zI) (lm : zJ), zL B 1 (F_191_251  n l6 l7 l8 l9 im lm) (zeRun 191 251 [some (.ref 16), o1, o2, o3, o4, o5, some (.int l6), some (.int l7), some (.int l8), some (.int l9), o10, o11, o12] [] (zk B im lm)) := by
  intro n
  induction n with
  | zero => intros; exact zL_none
  | succ n ih =>
    intro l6 l7 l8 l9 o1 o2 o3 o4 o5 o10 o11 o12 im lm
    unfold F_191_251
    refine zL_bd (d_191_251 _ _ _ _ _ _ _ _ _ _ _ _) (m_166_ok _ _ _) fun v1 im1 lm1 => ?_
    refine zL_if (d_191_257 _ _ _ _ _ _ _ _ _ _ _ _ _) (fun h => ?_) (fun h => ?_)
    · skip
      refine zL_ifm (d_191_351 _ _ _ _ _ _ _ _ _ _ _ _) (fun h => ?_) (fun h => ?_)
      · repeat rw [if_pos h]
        refine zL_eq (d_191_360 _ _ _ _ _ _ _ _ _ _ _ _ _) ?_
        exact J_191_367_ok   _ _ _ _ _ _ _ _ _ _ _ _ _ _ _ _
      · repeat rw [if_neg h]
        refine zL_eq (d_191_365 _ _ _ _ _ _ _ _ _ _ _ _ _) ?_
        exact J_191_367_ok   _ _ _ _ _ _ _ _ _ _ _ _ _ _ _ _
    · skip
      refine zL_bd (d_191_260 _ _ _ _ _ _ _ _ _ _ _ _) (m_166_ok _ _ _) fun v2 im2 lm2 => ?_
      refine zL_bd (d_191_266 _ _ _ _ _ _ _ _ _ _ _ _ _) (m_156_ok _ _ _ _) fun v3 im3 lm3 => ?_
      refine zL_if (d_191_275 _ _ _ _ _ _ _ _ _ _ _ _ _) (fun h => ?_) (fun h => ?_)
      · skip
        refine zL_eq (d_191_282 _ _ _ _ _ _ _ _ _ _ _ _) ?_
        exact J_191_299_ok _ ih  _ _ _ _ _ _ _ _ _ _ _ _ _ _ _
      · skip
        refine zL_bd (d_191_286 _ _ _ _ _ _ _ _ _ _ _ _) (m_166_ok _ _ _) fun v4 im4 lm4 => ?_
        refine zL_bd (d_191_295 _ _ _ _ _ _ _ _ _ _ _ _ _) (m_156_ok _ _ _ _) fun v5 im5 lm5 => ?_
        exact J_191_299_ok _ ih  _ _ _ _ _ _ _ _ _ _ _ _ _ _ _
def J_191_233  (l6 : Int32) (s0 : Int32) (s1 : Int32) (im : zI) (lm : zJ) : zR :=
    zBd (m_189 s0 s1 im lm) fun v1 im1 lm1 =>
    zBd (m_59 l6 v1 im1 lm1) fun v2 im2 lm2 =>
    F_191_251  2000 l6 v1 v2 0 im2 lm2
theorem J_191_233_ok {B : zeB} (l6 : Int32) (s0 : Int32) (s1 : Int32) (o1 : Option Value) (o2 : Option Value) (o3 : Option Value) (o4 : Option Value) (o5 : Option Value) (o7 : Option Value) (o8 : Option Value) (o9 : Option Value) (o10 : Option Value) (o11 : Option Value) (o12 : Option Value) (im : zI) (lm : zJ) : zL B 1 (J_191_233  l6 s0 s1 im lm) (zeRun 191 233 [some (.ref 16), o1, o2, o3, o4, o5, some (.int l6), o7, o8, o9, o10, o11, o12] [.int s1, .int s0] (zk B im lm)) := by
  unfold J_191_233
  refine zL_bd (d_191_233 _ _ _ _ _ _ _ _ _ _ _ _ _ _) (m_189_ok _ _ _ _) fun v1 im1 lm1 => ?_
  refine zL_bd (d_191_236 _ _ _ _ _ _ _ _ _ _ _ _ _) (m_59_ok _ _ _ _) fun v2 im2 lm2 => ?_
  refine zL_eq (d_191_246 _ _ _ _ _ _ _ _ _ _ _ _ _) ?_
  exact F_191_251_ok  _ _ _ _ _ _ _ _ _ _ _ _ _ _ _
def J_191_216  (l2 : Int32) (l6 : Int32) (im : zI) (lm : zJ) : zR :=
    J_191_233   l6 (l2 >>> (2 &&& 31)) (if (l2 &&& 64) = 0 then 30 else 100) im lm
theorem J_191_216_ok {B : zeB} (l2 : Int32) (l6 : Int32) (o1 : Option Value) (o3 : Option Value) (o4 : Option Value) (o5 : Option Value) (o7 : Option Value) (o8 : Option Value) (o9 : Option Value) (o10 : Option Value) (o11 : Option Value) (o12 : Option Value) (im : zI) (lm : zJ) : zL B 1 (J_191_216  l2 l6 im lm) (zeRun 191 216 [some (.ref 16), o1, some (.int l2), o3, o4, o5, some (.int l6), o7, o8, o9, o10, o11, o12] [] (zk B im lm)) := by
  unfold J_191_216
  refine zL_ifm (d_191_216 _ _ _ _ _ _ _ _ _ _ _ _) (fun h => ?_) (fun h => ?_)
  · repeat rw [if_pos h]
    refine zL_eq (d_191_226 _ _ _ _ _ _ _ _ _ _ _ _ _) ?_
    exact J_191_233_ok   _ _ _ _ _ _ _ _ _ _ _ _ _ _ _ _
  · repeat rw [if_neg h]
    refine zL_eq (d_191_231 _ _ _ _ _ _ _ _ _ _ _ _ _) ?_
    exact J_191_233_ok   _ _ _ _ _ _ _ _ _ _ _ _ _ _ _ _
def J_191_105  (l7 : Int32) (l9 : Int32) (l10 : Int32) (s0 : Int32) (im : zI) (lm : zJ) : zR :=
    if s0 ≤ 0 then
      zBd (m_169 l7 0 im lm) fun v1 im1 lm1 =>
      if l10 = v1 then
        zBd (m_177 3 im1 lm1) fun v2 im2 lm2 =>
        if v2 = l7 then
          zBd (m_43 l9 l7 im2 lm2) fun v3 im3 lm3 =>
          if v3 = (-10000003) then
            zBd (m_177 11 im3 lm3) fun v4 im4 lm4 =>
            some (if v4 = 1 then 1 else 0, im4, lm4)
          else
            some (0, im3, lm3)
        else
          some (0, im2, lm2)
      else
        some (0, im1, lm1)
    else
      if l10 = (-10000003) then
        zBd (m_177 11 im lm) fun v5 im5 lm5 =>
        some (if v5 = s0 then 1 else 0, im5, lm5)
      else
        some (0, im, lm)
theorem J_191_105_ok {B : zeB} (l7 : Int32) (l9 : Int32) (l10 : Int32) (s0 : Int32) (o1 : Option Value) (o2 : Option Value) (o3 : Option Value) (o4 : Option Value) (o5 : Option Value) (o6 : Option Value) (o8 : Option Value) (o11 : Option Value) (o12 : Option Value) (im : zI) (lm : zJ) : zL B 1 (J_191_105  l7 l9 l10 s0 im lm) (zeRun 191 105 [some (.ref 16), o1, o2, o3, o4, o5, o6, some (.int l7), o8, some (.int l9), some (.int l10), o11, o12] [.int s0] (zk B im lm)) := by
  unfold J_191_105
  refine zL_if (d_191_105 _ _ _ _ _ _ _ _ _ _ _ _ _) (fun h => ?_) (fun h => ?_)
  · skip
    refine zL_bd (d_191_138 _ _ _ _ _ _ _ _ _ _ _ _) (m_169_ok _ _ _ _) fun v1 im1 lm1 => ?_
    refine zL_if (d_191_147 _ _ _ _ _ _ _ _ _ _ _ _ _ _) (fun h => ?_) (fun h => ?_)
    · skip
      refine zL_bd (d_191_150 _ _ _ _ _ _ _ _ _ _ _ _) (m_177_ok _ _ _) fun v2 im2 lm2 => ?_
      refine zL_if (d_191_155 _ _ _ _ _ _ _ _ _ _ _ _ _) (fun h => ?_) (fun h => ?_)
      · skip
        refine zL_bd (d_191_160 _ _ _ _ _ _ _ _ _ _ _ _) (m_43_ok _ _ _ _) fun v3 im3 lm3 => ?_
        refine zL_if (d_191_168 _ _ _ _ _ _ _ _ _ _ _ _ _) (fun h => ?_) (fun h => ?_)
        · skip
          refine zL_bd (d_191_173 _ _ _ _ _ _ _ _ _ _ _ _) (m_177_ok _ _ _) fun v4 im4 lm4 => ?_
          refine zL_ifm (d_191_179 _ _ _ _ _ _ _ _ _ _ _ _ _ _) (fun h => ?_) (fun h => ?_)
          · repeat rw [if_pos h]
            exact zL_ret (d_191_183 _ _ _ _ _ _ _ _ _ _ _ _ _)
          · repeat rw [if_neg h]
            exact zL_ret (d_191_187 _ _ _ _ _ _ _ _ _ _ _ _ _)
        · skip
          exact zL_ret (d_191_187 _ _ _ _ _ _ _ _ _ _ _ _ _)
      · skip
        exact zL_ret (d_191_187 _ _ _ _ _ _ _ _ _ _ _ _ _)
    · skip
      exact zL_ret (d_191_187 _ _ _ _ _ _ _ _ _ _ _ _ _)
  · skip
    refine zL_if (d_191_112 _ _ _ _ _ _ _ _ _ _ _ _) (fun h => ?_) (fun h => ?_)
    · skip
      refine zL_bd (d_191_119 _ _ _ _ _ _ _ _ _ _ _ _) (m_177_ok _ _ _) fun v5 im5 lm5 => ?_
      refine zL_ifm (d_191_125 _ _ _ _ _ _ _ _ _ _ _ _ _ _) (fun h => ?_) (fun h => ?_)
      · repeat rw [if_pos h]
        exact zL_ret (d_191_130 _ _ _ _ _ _ _ _ _ _ _ _ _)
      · repeat rw [if_neg h]
        exact zL_ret (d_191_134 _ _ _ _ _ _ _ _ _ _ _ _ _)
    · skip
      exact zL_ret (d_191_134 _ _ _ _ _ _ _ _ _ _ _ _ _)
def J_191_72  (l5 : Int32) (l7 : Int32) (l8 : Int32) (s0 : Int32) (im : zI) (lm : zJ) : zR :=
    zBd (m_43 s0 l7 im lm) fun v1 im1 lm1 =>
    J_191_105   l7 s0 v1 (if s0 = l5 then if l8 = 0 then 0 else 3 else 2) im1 lm1
theorem J_191_72_ok {B : zeB} (l5 : Int32) (l7 : Int32) (l8 : Int32) (s0 : Int32) (o1 : Option Value) (o2 : Option Value) (o3 : Option Value) (o4 : Option Value) (o6 : Option Value) (o9 : Option Value) (o10 : Option Value) (o11 : Option Value) (o12 : Option Value) (im : zI) (lm : zJ) : zL B 1 (J_191_72  l5 l7 l8 s0 im lm) (zeRun 191 72 [some (.ref 16), o1, o2, o3, o4, some (.int l5), o6, some (.int l7), some (.int l8), o9, o10, o11, o12] [.int s0] (zk B im lm)) := by
  unfold J_191_72
  refine zL_bd (d_191_72 _ _ _ _ _ _ _ _ _ _ _ _ _) (m_43_ok _ _ _ _) fun v1 im1 lm1 => ?_
  refine zL_ifm (d_191_82 _ _ _ _ _ _ _ _ _ _ _ _ _) (fun h => ?_) (fun h => ?_)
  · repeat rw [if_pos h]
    refine zL_ifm (d_191_95 _ _ _ _ _ _ _ _ _ _ _ _) (fun h => ?_) (fun h => ?_)
    · repeat rw [if_pos h]
      refine zL_eq (d_191_104 _ _ _ _ _ _ _ _ _ _ _ _) ?_
      exact J_191_105_ok   _ _ _ _ _ _ _ _ _ _ _ _ _ _ _
    · repeat rw [if_neg h]
      refine zL_eq (d_191_100 _ _ _ _ _ _ _ _ _ _ _ _) ?_
      exact J_191_105_ok   _ _ _ _ _ _ _ _ _ _ _ _ _ _ _
  · repeat rw [if_neg h]
    refine zL_eq (d_191_91 _ _ _ _ _ _ _ _ _ _ _ _) ?_
    exact J_191_105_ok   _ _ _ _ _ _ _ _ _ _ _ _ _ _ _
def J_191_56  (l1 : Int32) (l5 : Int32) (l6 : Int32) (l7 : Int32) (s0 : Int32) (im : zI) (lm : zJ) : zR :=
    J_191_72   l5 l7 s0 (if (l1 &&& 48) = 0 then l6 else l5) im lm
theorem J_191_56_ok {B : zeB} (l1 : Int32) (l5 : Int32) (l6 : Int32) (l7 : Int32) (s0 : Int32) (o2 : Option Value) (o3 : Option Value) (o4 : Option Value) (o8 : Option Value) (o9 : Option Value) (o10 : Option Value) (o11 : Option Value) (o12 : Option Value) (im : zI) (lm : zJ) : zL B 1 (J_191_56  l1 l5 l6 l7 s0 im lm) (zeRun 191 56 [some (.ref 16), some (.int l1), o2, o3, o4, some (.int l5), some (.int l6), some (.int l7), o8, o9, o10, o11, o12] [.int s0] (zk B im lm)) := by
  unfold J_191_56
  refine zL_ifm (d_191_56 _ _ _ _ _ _ _ _ _ _ _ _ _) (fun h => ?_) (fun h => ?_)
  · repeat rw [if_pos h]
    refine zL_eq (d_191_65 _ _ _ _ _ _ _ _ _ _ _ _) ?_
    exact J_191_72_ok   _ _ _ _ _ _ _ _ _ _ _ _ _ _ _
  · repeat rw [if_neg h]
    refine zL_eq (d_191_70 _ _ _ _ _ _ _ _ _ _ _ _) ?_
    exact J_191_72_ok   _ _ _ _ _ _ _ _ _ _ _ _ _ _ _
def m_191 (l1 : Int32) (l2 : Int32) (im : zI) (lm : zJ) : zR :=
    zBd (m_177 1 im lm) fun v1 im1 lm1 =>
    zBd (m_177 0 im1 lm1) fun v2 im2 lm2 =>
    zBd (m_177 4 im2 lm2) fun v3 im3 lm3 =>
    zBd (m_189 l1 v1 im3 lm3) fun v4 im4 lm4 =>
    if v2 = 0 then
      zBd (m_189 l2 25 im4 lm4) fun v5 im5 lm5 =>
      zBd (m_169 v5 2 im5 lm5) fun v6 im6 lm6 =>
      J_191_56   l1 v3 v4 v5 (if v6 = 1 then 1 else 0) im6 lm6
    else
      if v2 = 1 then
        if (l2 &&& 3) = 0 then
          zBd (m_166 0 im4 lm4) fun v7 im7 lm7 =>
          if 0 ≤ v7 then
            J_191_402   l1 l2 im7 lm7
          else
            if (l2 &&& 12) = 0 then
              J_191_402   l1 l2 im7 lm7
            else
              J_191_216   l2 v4 im7 lm7
        else
          J_191_216   l2 v4 im4 lm4
      else
        if v2 = 2 then
          zBd (m_156 v3 0 im4 lm4) fun v8 im8 lm8 =>
          if v8 ≤ 500 then
            J_191_651   l2 500 im8 lm8
          else
            zBd (m_156 v3 0 im8 lm8) fun v9 im9 lm9 =>
            J_191_651   l2 v9 im9 lm9
        else
          if v2 = 3 then
            zBd (m_177 5 im4 lm4) fun v10 im10 lm10 =>
            J_191_760   v3 v10 (if (l1 &&& 64) = 0 then 1 else 0) im10 lm10
          else
            if v2 = 4 then
              zBd (m_156 v4 6 im4 lm4) fun v11 im11 lm11 =>
              zBd (m_189 l2 900 im11 lm11) fun v12 im12 lm12 =>
              zBd (m_110 v4 v12 im12 lm12) fun v13 im13 lm13 =>
              if v13 = (-10000003) then
                zBd (m_177 11 im13 lm13) fun v14 im14 lm14 =>
                if v14 = 6 then
                  some (1, im14, lm14)
                else
                  zBd (m_177 11 im14 lm14) fun v15 im15 lm15 =>
                  some (if v15 = 5 then if 0 ≤ v11 then 0 else 1 else 0, im15, lm15)
              else
                if v13 < 0 then
                  some (0, im13, lm13)
                else
                  if 0 ≤ v11 then
                    some (0, im13, lm13)
                  else
                    zBd (m_156 v4 6 im13 lm13) fun v16 im16 lm16 =>
                    if v16 = v12 then
                      zBd (m_177 0 im16 lm16) fun v17 im17 lm17 =>
                      J_191_961   v17 (if v13 = 0 then 5 else 4) im17 lm17
                    else
                      some (0, im16, lm16)
            else
              if v2 = 5 then
                zBd (m_177 14 im4 lm4) fun v18 im18 lm18 =>
                zBd (m_177 5 im18 lm18) fun v19 im19 lm19 =>
                J_191_1004   v18 v19 (if (l1 &&& 64) = 0 then 1 else 0) im19 lm19
              else
                zBd (m_86 1 im4 lm4) fun v20 im20 lm20 =>
                if v20 = (-10000003) then
                  zBd (m_93  im20 lm20) fun v21 im21 lm21 =>
                  if v21 = (-10000003) then
                    zBd (m_105  im21 lm21) fun v22 im22 lm22 =>
                    if v22 = (-10000003) then
                      zBd (m_177 11 im22 lm22) fun v23 im23 lm23 =>
                      some (if v23 = 1 then 1 else 0, im23, lm23)
                    else
                      some (0, im22, lm22)
                  else
                    some (0, im21, lm21)
                else
                  some (0, im20, lm20)
theorem m_191_ok {B : zeB} (l1 : Int32) (l2 : Int32) (im : zI) (lm : zJ) : zL B 1 (m_191 l1 l2 im lm) (zeRun 191 0 [some (.ref 16), some (.int l1), some (.int l2), none, none, none, none, none, none, none, none, none, none] [] (zk B im lm)) := by
  unfold m_191
  refine zL_bd (d_191_0 _ _ _ _ _ _ _ _ _ _ _ _) (m_177_ok _ _ _) fun v1 im1 lm1 => ?_
  refine zL_bd (d_191_5 _ _ _ _ _ _ _ _ _ _ _ _ _) (m_177_ok _ _ _) fun v2 im2 lm2 => ?_
  refine zL_bd (d_191_11 _ _ _ _ _ _ _ _ _ _ _ _ _) (m_177_ok _ _ _) fun v3 im3 lm3 => ?_
  refine zL_bd (d_191_18 _ _ _ _ _ _ _ _ _ _ _ _ _) (m_189_ok _ _ _ _) fun v4 im4 lm4 => ?_
  refine zL_if (d_191_25 _ _ _ _ _ _ _ _ _ _ _ _ _) (fun h => ?_) (fun h => ?_)
  · skip
    refine zL_bd (d_191_32 _ _ _ _ _ _ _ _ _ _ _ _) (m_189_ok _ _ _ _) fun v5 im5 lm5 => ?_
    refine zL_bd (d_191_38 _ _ _ _ _ _ _ _ _ _ _ _ _) (m_169_ok _ _ _ _) fun v6 im6 lm6 => ?_
    refine zL_ifm (d_191_47 _ _ _ _ _ _ _ _ _ _ _ _ _) (fun h => ?_) (fun h => ?_)
    · repeat rw [if_pos h]
      refine zL_eq (d_191_51 _ _ _ _ _ _ _ _ _ _ _ _) ?_
      exact J_191_56_ok   _ _ _ _ _ _ _ _ _ _ _ _ _ _ _
    · repeat rw [if_neg h]
      refine zL_eq (d_191_55 _ _ _ _ _ _ _ _ _ _ _ _) ?_
      exact J_191_56_ok   _ _ _ _ _ _ _ _ _ _ _ _ _ _ _
  · skip
    refine zL_if (d_191_189 _ _ _ _ _ _ _ _ _ _ _ _) (fun h => ?_) (fun h => ?_)
    · skip
      refine zL_if (d_191_195 _ _ _ _ _ _ _ _ _ _ _ _) (fun h => ?_) (fun h => ?_)
      · skip
        refine zL_bd (d_191_201 _ _ _ _ _ _ _ _ _ _ _ _) (m_166_ok _ _ _) fun v7 im7 lm7 => ?_
        refine zL_if (d_191_206 _ _ _ _ _ _ _ _ _ _ _ _ _) (fun h => ?_) (fun h => ?_)
        · skip
          exact J_191_402_ok   _ _ _ _ _ _ _ _ _ _ _ _ _ _
        · skip
          refine zL_if (d_191_209 _ _ _ _ _ _ _ _ _ _ _ _) (fun h => ?_) (fun h => ?_)
          · skip
            exact J_191_402_ok   _ _ _ _ _ _ _ _ _ _ _ _ _ _
          · skip
            exact J_191_216_ok   _ _ _ _ _ _ _ _ _ _ _ _ _ _
      · skip
        exact J_191_216_ok   _ _ _ _ _ _ _ _ _ _ _ _ _ _
    · skip
      refine zL_if (d_191_619 _ _ _ _ _ _ _ _ _ _ _ _) (fun h => ?_) (fun h => ?_)
      · skip
        refine zL_bd (d_191_625 _ _ _ _ _ _ _ _ _ _ _ _) (m_156_ok _ _ _ _) fun v8 im8 lm8 => ?_
        refine zL_if (d_191_632 _ _ _ _ _ _ _ _ _ _ _ _ _) (fun h => ?_) (fun h => ?_)
        · skip
          refine zL_eq (d_191_648 _ _ _ _ _ _ _ _ _ _ _ _) ?_
          exact J_191_651_ok   _ _ _ _ _ _ _ _ _ _ _ _ _ _ _
        · skip
          refine zL_bd (d_191_638 _ _ _ _ _ _ _ _ _ _ _ _) (m_156_ok _ _ _ _) fun v9 im9 lm9 => ?_
          refine zL_eq (d_191_645 _ _ _ _ _ _ _ _ _ _ _ _ _) ?_
          exact J_191_651_ok   _ _ _ _ _ _ _ _ _ _ _ _ _ _ _
      · skip
        refine zL_if (d_191_734 _ _ _ _ _ _ _ _ _ _ _ _) (fun h => ?_) (fun h => ?_)
        · skip
          refine zL_bd (d_191_740 _ _ _ _ _ _ _ _ _ _ _ _) (m_177_ok _ _ _) fun v10 im10 lm10 => ?_
          refine zL_ifm (d_191_745 _ _ _ _ _ _ _ _ _ _ _ _ _) (fun h => ?_) (fun h => ?_)
          · repeat rw [if_pos h]
            refine zL_eq (d_191_755 _ _ _ _ _ _ _ _ _ _ _ _) ?_
            exact J_191_760_ok   _ _ _ _ _ _ _ _ _ _ _ _ _ _ _
          · repeat rw [if_neg h]
            refine zL_eq (d_191_759 _ _ _ _ _ _ _ _ _ _ _ _) ?_
            exact J_191_760_ok   _ _ _ _ _ _ _ _ _ _ _ _ _ _ _
        · skip
          refine zL_if (d_191_847 _ _ _ _ _ _ _ _ _ _ _ _) (fun h => ?_) (fun h => ?_)
          · skip
            refine zL_bd (d_191_853 _ _ _ _ _ _ _ _ _ _ _ _) (m_156_ok _ _ _ _) fun v11 im11 lm11 => ?_
            refine zL_bd (d_191_861 _ _ _ _ _ _ _ _ _ _ _ _ _) (m_189_ok _ _ _ _) fun v12 im12 lm12 => ?_
            refine zL_bd (d_191_870 _ _ _ _ _ _ _ _ _ _ _ _ _) (m_110_ok _ _ _ _) fun v13 im13 lm13 => ?_
            refine zL_if (d_191_880 _ _ _ _ _ _ _ _ _ _ _ _ _) (fun h => ?_) (fun h => ?_)
            · skip
              refine zL_bd (d_191_889 _ _ _ _ _ _ _ _ _ _ _ _) (m_177_ok _ _ _) fun v14 im14 lm14 => ?_
              refine zL_if (d_191_895 _ _ _ _ _ _ _ _ _ _ _ _ _) (fun h => ?_) (fun h => ?_)
              · skip
                exact zL_ret (d_191_915 _ _ _ _ _ _ _ _ _ _ _ _ _)
              · skip
                refine zL_bd (d_191_900 _ _ _ _ _ _ _ _ _ _ _ _) (m_177_ok _ _ _) fun v15 im15 lm15 => ?_
                refine zL_ifm (d_191_906 _ _ _ _ _ _ _ _ _ _ _ _ _ _) (fun h => ?_) (fun h => ?_)
                · repeat rw [if_pos h]
                  refine zL_ifm (d_191_910 _ _ _ _ _ _ _ _ _ _ _ _ _) (fun h => ?_) (fun h => ?_)
                  · repeat rw [if_pos h]
                    exact zL_ret (d_191_919 _ _ _ _ _ _ _ _ _ _ _ _ _)
                  · repeat rw [if_neg h]
                    exact zL_ret (d_191_915 _ _ _ _ _ _ _ _ _ _ _ _ _)
                · repeat rw [if_neg h]
                  exact zL_ret (d_191_919 _ _ _ _ _ _ _ _ _ _ _ _ _)
            · skip
              refine zL_if (d_191_923 _ _ _ _ _ _ _ _ _ _ _ _) (fun h => ?_) (fun h => ?_)
              · skip
                exact zL_ret (d_191_968 _ _ _ _ _ _ _ _ _ _ _ _ _)
              · skip
                refine zL_if (d_191_928 _ _ _ _ _ _ _ _ _ _ _ _) (fun h => ?_) (fun h => ?_)
                · skip
                  exact zL_ret (d_191_968 _ _ _ _ _ _ _ _ _ _ _ _ _)
                · skip
                  refine zL_bd (d_191_933 _ _ _ _ _ _ _ _ _ _ _ _) (m_156_ok _ _ _ _) fun v16 im16 lm16 => ?_
                  refine zL_if (d_191_941 _ _ _ _ _ _ _ _ _ _ _ _ _) (fun h => ?_) (fun h => ?_)
                  · skip
                    refine zL_bd (d_191_946 _ _ _ _ _ _ _ _ _ _ _ _) (m_177_ok _ _ _) fun v17 im17 lm17 => ?_
                    refine zL_ifm (d_191_951 _ _ _ _ _ _ _ _ _ _ _ _ _ _) (fun h => ?_) (fun h => ?_)
                    · repeat rw [if_pos h]
                      refine zL_eq (d_191_956 _ _ _ _ _ _ _ _ _ _ _ _ _ _) ?_
                      exact J_191_961_ok   _ _ _ _ _ _ _ _ _ _ _ _ _ _ _ _ _
                    · repeat rw [if_neg h]
                      refine zL_eq (d_191_960 _ _ _ _ _ _ _ _ _ _ _ _ _ _) ?_
                      exact J_191_961_ok   _ _ _ _ _ _ _ _ _ _ _ _ _ _ _ _ _
                  · skip
                    exact zL_ret (d_191_968 _ _ _ _ _ _ _ _ _ _ _ _ _)
          · skip
            refine zL_if (d_191_970 _ _ _ _ _ _ _ _ _ _ _ _) (fun h => ?_) (fun h => ?_)
            · skip
              refine zL_bd (d_191_976 _ _ _ _ _ _ _ _ _ _ _ _) (m_177_ok _ _ _) fun v18 im18 lm18 => ?_
              refine zL_bd (d_191_982 _ _ _ _ _ _ _ _ _ _ _ _ _) (m_177_ok _ _ _) fun v19 im19 lm19 => ?_
              refine zL_ifm (d_191_989 _ _ _ _ _ _ _ _ _ _ _ _ _) (fun h => ?_) (fun h => ?_)
              · repeat rw [if_pos h]
                refine zL_eq (d_191_999 _ _ _ _ _ _ _ _ _ _ _ _) ?_
                exact J_191_1004_ok   _ _ _ _ _ _ _ _ _ _ _ _ _ _ _
              · repeat rw [if_neg h]
                refine zL_eq (d_191_1003 _ _ _ _ _ _ _ _ _ _ _ _) ?_
                exact J_191_1004_ok   _ _ _ _ _ _ _ _ _ _ _ _ _ _ _
            · skip
              refine zL_bd (d_191_1101 _ _ _ _ _ _ _ _ _ _ _ _) (m_86_ok _ _ _) fun v20 im20 lm20 => ?_
              refine zL_if (d_191_1106 _ _ _ _ _ _ _ _ _ _ _ _ _) (fun h => ?_) (fun h => ?_)
              · skip
                refine zL_bd (d_191_1111 _ _ _ _ _ _ _ _ _ _ _ _) (m_93_ok _ _) fun v21 im21 lm21 => ?_
                refine zL_if (d_191_1115 _ _ _ _ _ _ _ _ _ _ _ _ _) (fun h => ?_) (fun h => ?_)
                · skip
                  refine zL_bd (d_191_1120 _ _ _ _ _ _ _ _ _ _ _ _) (m_105_ok _ _) fun v22 im22 lm22 => ?_
                  refine zL_if (d_191_1124 _ _ _ _ _ _ _ _ _ _ _ _ _) (fun h => ?_) (fun h => ?_)
                  · skip
                    refine zL_bd (d_191_1129 _ _ _ _ _ _ _ _ _ _ _ _) (m_177_ok _ _ _) fun v23 im23 lm23 => ?_
                    refine zL_ifm (d_191_1135 _ _ _ _ _ _ _ _ _ _ _ _ _ _) (fun h => ?_) (fun h => ?_)
                    · repeat rw [if_pos h]
                      exact zL_ret (d_191_1139 _ _ _ _ _ _ _ _ _ _ _ _ _)
                    · repeat rw [if_neg h]
                      exact zL_ret (d_191_1143 _ _ _ _ _ _ _ _ _ _ _ _ _)
                  · skip
                    exact zL_ret (d_191_1143 _ _ _ _ _ _ _ _ _ _ _ _ _)
                · skip
                  exact zL_ret (d_191_1143 _ _ _ _ _ _ _ _ _ _ _ _ _)
              · skip
                exact zL_ret (d_191_1143 _ _ _ _ _ _ _ _ _ _ _ _ _)
