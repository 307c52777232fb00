/-! L_judged -/
theorem d_193_0 {len : Nat} {im : zI} {lm : zJ} (l1 : Int32) (o2 : Option Value) (o3 : Option Value) (o4 : Option Value) (o5 : Option Value) (o6 : Option Value) (o7 : Option Value) (o8 : Option Value) (o9 : Option Value) (l10 : Nat)  : zeRun 193 0 [some (.ref 16), some (.int l1), o2, o3, o4, o5, o6, o7, o8, o9] [] (zk (gB len l10) im lm) = zeBh 193 6 [some (.ref 16), some (.int l1), o2, o3, o4, o5, o6, o7, o8, o9] [.int l1] (zeRun 177 0 [some (.ref 16), some (.int 5)] [] (zk (gB len l10) im lm)) := ze_call (ok := true) rfl 4 rfl rfl rfl
theorem d_193_6 {len : Nat} {im : zI} {lm : zJ} (l1 : Int32) (o2 : Option Value) (o3 : Option Value) (o4 : Option Value) (o5 : Option Value) (o6 : Option Value) (o7 : Option Value) (o8 : Option Value) (o9 : Option Value) (l10 : Nat) (s0 : Int32) (s1 : Int32)  : zeRun 193 6 [some (.ref 16), some (.int l1), o2, o3, o4, o5, o6, o7, o8, o9] [.int s1, .int s0] (zk (gB len l10) im lm) = zeBh 193 11 [some (.ref 16), some (.int l1), o2, o3, o4, o5, o6, o7, o8, o9] [] (zeRun 189 0 [some (.int s0), some (.int (s1 + 1))] [] (zk (gB len l10) im lm)) := ze_call (ok := true) rfl 3 rfl rfl rfl
theorem d_193_11 {len : Nat} {im : zI} {lm : zJ} (l1 : Int32) (o2 : Option Value) (o3 : Option Value) (o4 : Option Value) (o5 : Option Value) (o6 : Option Value) (o7 : Option Value) (o8 : Option Value) (o9 : Option Value) (l10 : Nat) (s0 : Int32)  : zeRun 193 11 [some (.ref 16), some (.int l1), o2, o3, o4, o5, o6, o7, o8, o9] [.int s0] (zk (gB len l10) im lm) = zeBh 193 16 [some (.ref 16), some (.int l1), some (.int s0), o3, o4, o5, o6, o7, o8, o9] [] (zeRun 192 0 [some (.ref 16), none, none, none, none] [] (zk (gB len l10) im lm)) := ze_call (ok := true) rfl 3 rfl rfl rfl
theorem d_193_16 {len : Nat} {im : zI} {lm : zJ} (l1 : Int32) (l2 : Int32) (o3 : Option Value) (o4 : Option Value) (o5 : Option Value) (o6 : Option Value) (o7 : Option Value) (o8 : Option Value) (o9 : Option Value) (l10 : Nat) (s0 : Int64)  : zeRun 193 16 [some (.ref 16), some (.int l1), some (.int l2), o3, o4, o5, o6, o7, o8, o9] [.long s0] (zk (gB len l10) im lm) = zeBh 193 23 [some (.ref 16), some (.int l1), some (.int l2), some (.long s0), none, o5, o6, o7, o8, o9] [.int l2] (zeRun 177 0 [some (.ref 16), some (.int 5)] [] (zk (gB len l10) im lm)) := ze_call (ok := true) rfl 5 rfl rfl rfl
theorem d_193_23 {len : Nat} {im : zI} {lm : zJ} (l1 : Int32) (l2 : Int32) (l3 : Int64) (o5 : Option Value) (o6 : Option Value) (o7 : Option Value) (o8 : Option Value) (o9 : Option Value) (l10 : Nat) (s0 : Int32) (s1 : Int32)  : zeRun 193 23 [some (.ref 16), some (.int l1), some (.int l2), some (.long l3), none, o5, o6, o7, o8, o9] [.int s1, .int s0] (zk (gB len l10) im lm) = if s0 = s1 then zeRun 193 26 [some (.ref 16), some (.int l1), some (.int l2), some (.long l3), none, o5, o6, o7, o8, o9] [] (zk (gB len l10) im lm) else zeRun 193 42 [some (.ref 16), some (.int l1), some (.int l2), some (.long l3), none, o5, o6, o7, o8, o9] [] (zk (gB len l10) im lm) := ze_if (ok := true) rfl 1 rfl rfl
theorem d_193_26 {len : Nat} {im : zI} {lm : zJ} (o1 : Option Value) (l2 : Int32) (o3 : Option Value) (o4 : Option Value) (o5 : Option Value) (o6 : Option Value) (o7 : Option Value) (o8 : Option Value) (o9 : Option Value) (l10 : Nat)  : zeRun 193 26 [some (.ref 16), o1, some (.int l2), o3, o4, o5, o6, o7, o8, o9] [] (zk (gB len l10) im lm) = zeBh 193 31 [some (.ref 16), o1, some (.int l2), o3, o4, o5, o6, o7, o8, o9] [] (zeRun 122 0 [some (.ref 16), some (.int l2)] [] (zk (gB len l10) im lm)) := ze_call (ok := true) rfl 3 rfl rfl rfl
theorem d_193_31 {len : Nat} {im : zI} {lm : zJ} (o0 : Option Value) (o1 : Option Value) (o2 : Option Value) (o3 : Option Value) (o4 : Option Value) (o5 : Option Value) (o6 : Option Value) (o7 : Option Value) (o8 : Option Value) (o9 : Option Value) (l10 : Nat) (s0 : Int32)  : zeRun 193 31 [o0, o1, o2, o3, o4, o5, o6, o7, o8, o9] [.int s0] (zk (gB len l10) im lm) = if s0 = (-10000001) then zeRun 193 36 [o0, o1, o2, o3, o4, o5, o6, o7, o8, o9] [] (zk (gB len l10) im lm) else zeRun 193 40 [o0, o1, o2, o3, o4, o5, o6, o7, o8, o9] [] (zk (gB len l10) im lm) := ze_if (ok := true) rfl 2 rfl rfl
theorem d_193_36 {len : Nat} {im : zI} {lm : zJ} (o0 : Option Value) (o1 : Option Value) (o2 : Option Value) (o3 : Option Value) (o4 : Option Value) (o5 : Option Value) (o6 : Option Value) (o7 : Option Value) (o8 : Option Value) (o9 : Option Value) (l10 : Nat)  : zeRun 193 36 [o0, o1, o2, o3, o4, o5, o6, o7, o8, o9] [] (zk (gB len l10) im lm) = some (some (.int 1), (zk (gB len l10) im lm)) := ze_ret (ok := true) rfl 3 rfl rfl
theorem d_193_40 {len : Nat} {im : zI} {lm : zJ} (o0 : Option Value) (o1 : Option Value) (o2 : Option Value) (o3 : Option Value) (o4 : Option Value) (o5 : Option Value) (o6 : Option Value) (o7 : Option Value) (o8 : Option Value) (o9 : Option Value) (l10 : Nat)  : zeRun 193 40 [o0, o1, o2, o3, o4, o5, o6, o7, o8, o9] [] (zk (gB len l10) im lm) = some (some (.int 0), (zk (gB len l10) im lm)) := ze_ret (ok := true) rfl 2 rfl rfl
theorem d_193_42 {len : Nat} {im : zI} {lm : zJ} (l1 : Int32) (l2 : Int32) (l3 : Int64) (o5 : Option Value) (o6 : Option Value) (o7 : Option Value) (o8 : Option Value) (o9 : Option Value) (l10 : Nat)  : zeRun 193 42 [some (.ref 16), some (.int l1), some (.int l2), some (.long l3), none, o5, o6, o7, o8, o9] [] (zk (gB len l10) im lm) = zeBh 193 48 [some (.ref 16), some (.int l1), some (.int l2), some (.long l3), none, o5, o6, o7, o8, o9] [] (zeRun 172 0 [some (.ref 16), some (.int l2), some (.int 1)] [] (zk (gB len l10) im lm)) := ze_call (ok := true) rfl 4 rfl rfl rfl
theorem d_193_48 {len : Nat} {im : zI} {lm : zJ} (l1 : Int32) (l2 : Int32) (l3 : Int64) (o5 : Option Value) (o6 : Option Value) (o7 : Option Value) (o8 : Option Value) (o9 : Option Value) (l10 : Nat) (s0 : Int32)  : zeRun 193 48 [some (.ref 16), some (.int l1), some (.int l2), some (.long l3), none, o5, o6, o7, o8, o9] [.int s0] (zk (gB len l10) im lm) = if s0 = 4 then zeRun 193 52 [some (.ref 16), some (.int l1), some (.int l2), some (.long l3), none, o5, o6, o7, o8, o9] [] (zk (gB len l10) im lm) else zeRun 193 68 [some (.ref 16), some (.int l1), some (.int l2), some (.long l3), none, o5, o6, o7, o8, o9] [] (zk (gB len l10) im lm) := ze_if (ok := true) rfl 2 rfl rfl
theorem d_193_52 {len : Nat} {im : zI} {lm : zJ} (o1 : Option Value) (l2 : Int32) (o3 : Option Value) (o4 : Option Value) (o5 : Option Value) (o6 : Option Value) (o7 : Option Value) (o8 : Option Value) (o9 : Option Value) (l10 : Nat)  : zeRun 193 52 [some (.ref 16), o1, some (.int l2), o3, o4, o5, o6, o7, o8, o9] [] (zk (gB len l10) im lm) = zeBh 193 57 [some (.ref 16), o1, some (.int l2), o3, o4, o5, o6, o7, o8, o9] [] (zeRun 122 0 [some (.ref 16), some (.int l2)] [] (zk (gB len l10) im lm)) := ze_call (ok := true) rfl 3 rfl rfl rfl
theorem d_193_57 {len : Nat} {im : zI} {lm : zJ} (o0 : Option Value) (o1 : Option Value) (o2 : Option Value) (o3 : Option Value) (o4 : Option Value) (o5 : Option Value) (o6 : Option Value) (o7 : Option Value) (o8 : Option Value) (o9 : Option Value) (l10 : Nat) (s0 : Int32)  : zeRun 193 57 [o0, o1, o2, o3, o4, o5, o6, o7, o8, o9] [.int s0] (zk (gB len l10) im lm) = if s0 = (-10000002) then zeRun 193 62 [o0, o1, o2, o3, o4, o5, o6, o7, o8, o9] [] (zk (gB len l10) im lm) else zeRun 193 66 [o0, o1, o2, o3, o4, o5, o6, o7, o8, o9] [] (zk (gB len l10) im lm) := ze_if (ok := true) rfl 2 rfl rfl
theorem d_193_62 {len : Nat} {im : zI} {lm : zJ} (o0 : Option Value) (o1 : Option Value) (o2 : Option Value) (o3 : Option Value) (o4 : Option Value) (o5 : Option Value) (o6 : Option Value) (o7 : Option Value) (o8 : Option Value) (o9 : Option Value) (l10 : Nat)  : zeRun 193 62 [o0, o1, o2, o3, o4, o5, o6, o7, o8, o9] [] (zk (gB len l10) im lm) = some (some (.int 1), (zk (gB len l10) im lm)) := ze_ret (ok := true) rfl 3 rfl rfl
theorem d_193_66 {len : Nat} {im : zI} {lm : zJ} (o0 : Option Value) (o1 : Option Value) (o2 : Option Value) (o3 : Option Value) (o4 : Option Value) (o5 : Option Value) (o6 : Option Value) (o7 : Option Value) (o8 : Option Value) (o9 : Option Value) (l10 : Nat)  : zeRun 193 66 [o0, o1, o2, o3, o4, o5, o6, o7, o8, o9] [] (zk (gB len l10) im lm) = some (some (.int 0), (zk (gB len l10) im lm)) := ze_ret (ok := true) rfl 2 rfl rfl
theorem d_193_68 {len : Nat} {im : zI} {lm : zJ} (l1 : Int32) (l2 : Int32) (l3 : Int64) (o5 : Option Value) (o6 : Option Value) (o7 : Option Value) (o8 : Option Value) (o9 : Option Value) (l10 : Nat) (c0 : Nat.ble 154 l10 = true) : zeRun 193 68 [some (.ref 16), some (.int l1), some (.int l2), some (.long l3), none, o5, o6, o7, o8, o9] [] (zk (gB len l10) im lm) = zeRun 193 72 [some (.ref 16), some (.int l1), some (.int l2), some (.long l3), none, o5, o6, o7, o8, o9] [.ref (16 + l10)] (zk (gB len (l10 + 1)) (zeU1 im (16 + l10) (fun _ => 0)) (zeU1 lm (16 + l10) (fun _ => 0))) := g_new (i := 193) rfl (n := 70) rfl rfl c0
theorem d_193_72 {len : Nat} {im : zI} {lm : zJ} (l1 : Int32) (l2 : Int32) (l3 : Int64) (o5 : Option Value) (o6 : Option Value) (o7 : Option Value) (o8 : Option Value) (o9 : Option Value) (l10 : Nat) (s0 : Nat)  : zeRun 193 72 [some (.ref 16), some (.int l1), some (.int l2), some (.long l3), none, o5, o6, o7, o8, o9] [.ref s0] (zk (gB len l10) im lm) = zeBh 193 80 [some (.ref 16), some (.int l1), some (.int l2), some (.long l3), none, some (.ref s0), o6, o7, o8, o9] [] (zeRun 172 0 [some (.ref 16), some (.int l2), some (.int 5)] [] (zk (gB len l10) im lm)) := ze_call (ok := true) rfl 5 rfl rfl rfl
theorem d_193_80 {len : Nat} {im : zI} {lm : zJ} (l1 : Int32) (l2 : Int32) (l3 : Int64) (l5 : Nat) (o6 : Option Value) (o7 : Option Value) (o8 : Option Value) (o9 : Option Value) (l10 : Nat) (s0 : Int32)  : zeRun 193 80 [some (.ref 16), some (.int l1), some (.int l2), some (.long l3), none, some (.ref l5), o6, o7, o8, o9] [.int s0] (zk (gB len l10) im lm) = zeRun 193 85 [some (.ref 16), some (.int l1), some (.int l2), some (.long l3), none, some (.ref l5), some (.int s0), some (.int 0), o8, o9] [] (zk (gB len l10) im lm) := ze_go (ok := true) rfl 3 rfl rfl
theorem d_193_85 {len : Nat} {im : zI} {lm : zJ} (l1 : Int32) (l2 : Int32) (l3 : Int64) (l5 : Nat) (l6 : Int32) (l7 : Int32) (o8 : Option Value) (o9 : Option Value) (l10 : Nat)  : zeRun 193 85 [some (.ref 16), some (.int l1), some (.int l2), some (.long l3), none, some (.ref l5), some (.int l6), some (.int l7), o8, o9] [] (zk (gB len l10) im lm) = zeBh 193 92 [some (.ref 16), some (.int l1), some (.int l2), some (.long l3), none, some (.ref l5), some (.int l6), some (.int l7), o8, o9] [.int l7] (zeRun 177 0 [some (.ref 16), some (.int 1)] [] (zk (gB len l10) im lm)) := ze_call (ok := true) rfl 4 rfl rfl rfl
theorem d_193_92 {len : Nat} {im : zI} {lm : zJ} (l1 : Int32) (l2 : Int32) (l3 : Int64) (l5 : Nat) (l6 : Int32) (l7 : Int32) (o8 : Option Value) (o9 : Option Value) (l10 : Nat) (s0 : Int32) (s1 : Int32)  : zeRun 193 92 [some (.ref 16), some (.int l1), some (.int l2), some (.long l3), none, some (.ref l5), some (.int l6), some (.int l7), o8, o9] [.int s1, .int s0] (zk (gB len l10) im lm) = if s1 ≤ s0 then zeRun 193 113 [some (.ref 16), some (.int l1), some (.int l2), some (.long l3), none, some (.ref l5), some (.int l6), some (.int l7), o8, o9] [] (zk (gB len l10) im lm) else zeRun 193 95 [some (.ref 16), some (.int l1), some (.int l2), some (.long l3), none, some (.ref l5), some (.int l6), some (.int l7), o8, o9] [] (zk (gB len l10) im lm) := ze_if (ok := true) rfl 1 rfl rfl
theorem d_193_113 {len : Nat} {im : zI} {lm : zJ} (l1 : Int32) (l2 : Int32) (l3 : Int64) (l5 : Nat) (l6 : Int32) (o7 : Option Value) (o8 : Option Value) (o9 : Option Value) (l10 : Nat)  : zeRun 193 113 [some (.ref 16), some (.int l1), some (.int l2), some (.long l3), none, some (.ref l5), some (.int l6), o7, o8, o9] [] (zk (gB len l10) im lm) = zeBh 193 118 [some (.ref 16), some (.int l1), some (.int l2), some (.long l3), none, some (.ref l5), some (.int l6), o7, o8, o9] [] (zeRun 122 0 [some (.ref 16), some (.int l2)] [] (zk (gB len l10) im lm)) := ze_call (ok := true) rfl 3 rfl rfl rfl
theorem d_193_118 {len : Nat} {im : zI} {lm : zJ} (l1 : Int32) (l2 : Int32) (l3 : Int64) (l5 : Nat) (l6 : Int32) (o7 : Option Value) (o8 : Option Value) (o9 : Option Value) (l10 : Nat) (s0 : Int32)  : zeRun 193 118 [some (.ref 16), some (.int l1), some (.int l2), some (.long l3), none, some (.ref l5), some (.int l6), o7, o8, o9] [.int s0] (zk (gB len l10) im lm) = zeRun 193 126 [some (.ref 16), some (.int l1), some (.int l2), some (.long l3), none, some (.ref l5), some (.int l6), some (.int s0), some (.int 0), some (.int 0)] [] (zk (gB len l10) im lm) := ze_go (ok := true) rfl 5 rfl rfl
theorem d_193_95 {len : Nat} {im : zI} {lm : zJ} (l1 : Int32) (l2 : Int32) (l3 : Int64) (l5 : Nat) (l6 : Int32) (l7 : Int32) (o8 : Option Value) (o9 : Option Value) (l10 : Nat)  : zeRun 193 95 [some (.ref 16), some (.int l1), some (.int l2), some (.long l3), none, some (.ref l5), some (.int l6), some (.int l7), o8, o9] [] (zk (gB len l10) im lm) = zeBh 193 106 [some (.ref 16), some (.int l1), some (.int l2), some (.long l3), none, some (.ref l5), some (.int l6), some (.int l7), o8, o9] [.int l7, .ref l5] (zeRun 156 0 [some (.ref 16), some (.int l7), some (.int 0)] [] (zk (gB len l10) im lm)) := ze_call (ok := true) rfl 6 rfl rfl rfl
theorem d_193_106 {len : Nat} {im : zI} {lm : zJ} (l1 : Int32) (l2 : Int32) (l3 : Int64) (l5 : Nat) (l6 : Int32) (l7 : Int32) (o8 : Option Value) (o9 : Option Value) (l10 : Nat) (s0 : Nat) (s1 : Int32) (s2 : Int32) (c0 : gC l10 s0 = true) (c1 : zeInb s1 6 = true) : zeRun 193 106 [some (.ref 16), some (.int l1), some (.int l2), some (.long l3), none, some (.ref l5), some (.int l6), some (.int l7), o8, o9] [.int s2, .int s1, .ref s0] (zk (gB len l10) im lm) = zeRun 193 107 [some (.ref 16), some (.int l1), some (.int l2), some (.long l3), none, some (.ref l5), some (.int l6), some (.int l7), o8, o9] [] (zk (gB len l10) (zeU2 im s0 (Int32.toNatClampNeg s1) s2) lm) := g_st (i := 193) rfl (n := 107) rfl c0 c1
theorem d_193_107 {len : Nat} {im : zI} {lm : zJ} (l1 : Int32) (l2 : Int32) (l3 : Int64) (l5 : Nat) (l6 : Int32) (l7 : Int32) (o8 : Option Value) (o9 : Option Value) (l10 : Nat)  : zeRun 193 107 [some (.ref 16), some (.int l1), some (.int l2), some (.long l3), none, some (.ref l5), some (.int l6), some (.int l7), o8, o9] [] (zk (gB len l10) im lm) = zeRun 193 85 [some (.ref 16), some (.int l1), some (.int l2), some (.long l3), none, some (.ref l5), some (.int l6), some (.int (l7 + 1)), o8, o9] [] (zk (gB len l10) im lm) := ze_go (ok := true) rfl 2 rfl rfl
theorem d_193_126 {len : Nat} {im : zI} {lm : zJ} (l1 : Int32) (l2 : Int32) (l3 : Int64) (l5 : Nat) (l6 : Int32) (l7 : Int32) (l8 : Int32) (l9 : Int32) (l10 : Nat)  : zeRun 193 126 [some (.ref 16), some (.int l1), some (.int l2), some (.long l3), none, some (.ref l5), some (.int l6), some (.int l7), some (.int l8), some (.int l9)] [] (zk (gB len l10) im lm) = zeBh 193 133 [some (.ref 16), some (.int l1), some (.int l2), some (.long l3), none, some (.ref l5), some (.int l6), some (.int l7), some (.int l8), some (.int l9)] [.int l9] (zeRun 177 0 [some (.ref 16), some (.int 1)] [] (zk (gB len l10) im lm)) := ze_call (ok := true) rfl 4 rfl rfl rfl
theorem d_193_133 {len : Nat} {im : zI} {lm : zJ} (l1 : Int32) (l2 : Int32) (l3 : Int64) (l5 : Nat) (l6 : Int32) (l7 : Int32) (l8 : Int32) (l9 : Int32) (l10 : Nat) (s0 : Int32) (s1 : Int32)  : zeRun 193 133 [some (.ref 16), some (.int l1), some (.int l2), some (.long l3), none, some (.ref l5), some (.int l6), some (.int l7), some (.int l8), some (.int l9)] [.int s1, .int s0] (zk (gB len l10) im lm) = if s1 ≤ s0 then zeRun 193 167 [some (.ref 16), some (.int l1), some (.int l2), some (.long l3), none, some (.ref l5), some (.int l6), some (.int l7), some (.int l8), some (.int l9)] [] (zk (gB len l10) im lm) else zeRun 193 136 [some (.ref 16), some (.int l1), some (.int l2), some (.long l3), none, some (.ref l5), some (.int l6), some (.int l7), some (.int l8), some (.int l9)] [] (zk (gB len l10) im lm) := ze_if (ok := true) rfl 1 rfl rfl
theorem d_193_167 {len : Nat} {im : zI} {lm : zJ} (l1 : Int32) (l2 : Int32) (l3 : Int64) (o5 : Option Value) (l6 : Int32) (l7 : Int32) (l8 : Int32) (o9 : Option Value) (l10 : Nat)  : zeRun 193 167 [some (.ref 16), some (.int l1), some (.int l2), some (.long l3), none, o5, some (.int l6), some (.int l7), some (.int l8), o9] [] (zk (gB len l10) im lm) = if l7 = l8 then zeRun 193 174 [some (.ref 16), some (.int l1), some (.int l2), some (.long l3), none, o5, some (.int l6), some (.int l7), some (.int l8), o9] [] (zk (gB len l10) im lm) else zeRun 193 215 [some (.ref 16), some (.int l1), some (.int l2), some (.long l3), none, o5, some (.int l6), some (.int l7), some (.int l8), o9] [] (zk (gB len l10) im lm) := ze_if (ok := true) rfl 3 rfl rfl
theorem d_193_174 {len : Nat} {im : zI} {lm : zJ} (l1 : Int32) (l2 : Int32) (l3 : Int64) (o5 : Option Value) (l6 : Int32) (o7 : Option Value) (o8 : Option Value) (o9 : Option Value) (l10 : Nat)  : zeRun 193 174 [some (.ref 16), some (.int l1), some (.int l2), some (.long l3), none, o5, some (.int l6), o7, o8, o9] [] (zk (gB len l10) im lm) = zeBh 193 180 [some (.ref 16), some (.int l1), some (.int l2), some (.long l3), none, o5, some (.int l6), o7, o8, o9] [] (zeRun 172 0 [some (.ref 16), some (.int l2), some (.int 5)] [] (zk (gB len l10) im lm)) := ze_call (ok := true) rfl 4 rfl rfl rfl
theorem d_193_180 {len : Nat} {im : zI} {lm : zJ} (l1 : Int32) (o2 : Option Value) (l3 : Int64) (o5 : Option Value) (l6 : Int32) (o7 : Option Value) (o8 : Option Value) (o9 : Option Value) (l10 : Nat) (s0 : Int32)  : zeRun 193 180 [some (.ref 16), some (.int l1), o2, some (.long l3), none, o5, some (.int l6), o7, o8, o9] [.int s0] (zk (gB len l10) im lm) = if s0 = (1 - l6) then zeRun 193 187 [some (.ref 16), some (.int l1), o2, some (.long l3), none, o5, some (.int l6), o7, o8, o9] [] (zk (gB len l10) im lm) else zeRun 193 215 [some (.ref 16), some (.int l1), o2, some (.long l3), none, o5, some (.int l6), o7, o8, o9] [] (zk (gB len l10) im lm) := ze_if (ok := true) rfl 4 rfl rfl
theorem d_193_187 {len : Nat} {im : zI} {lm : zJ} (l1 : Int32) (o2 : Option Value) (l3 : Int64) (o5 : Option Value) (o6 : Option Value) (o7 : Option Value) (o8 : Option Value) (o9 : Option Value) (l10 : Nat)  : zeRun 193 187 [some (.ref 16), some (.int l1), o2, some (.long l3), none, o5, o6, o7, o8, o9] [] (zk (gB len l10) im lm) = if (l1 &&& 512) = 0 then zeRun 193 211 [some (.ref 16), some (.int l1), o2, some (.long l3), none, o5, o6, o7, o8, o9] [] (zk (gB len l10) im lm) else zeRun 193 195 [some (.ref 16), some (.int l1), o2, some (.long l3), none, o5, o6, o7, o8, o9] [] (zk (gB len l10) im lm) := ze_if (ok := true) rfl 4 rfl rfl
theorem d_193_211 {len : Nat} {im : zI} {lm : zJ} (o0 : Option Value) (o1 : Option Value) (o2 : Option Value) (o3 : Option Value) (o4 : Option Value) (o5 : Option Value) (o6 : Option Value) (o7 : Option Value) (o8 : Option Value) (o9 : Option Value) (l10 : Nat)  : zeRun 193 211 [o0, o1, o2, o3, o4, o5, o6, o7, o8, o9] [] (zk (gB len l10) im lm) = some (some (.int 1), (zk (gB len l10) im lm)) := ze_ret (ok := true) rfl 3 rfl rfl
theorem d_193_195 {len : Nat} {im : zI} {lm : zJ} (o1 : Option Value) (o2 : Option Value) (l3 : Int64) (o5 : Option Value) (o6 : Option Value) (o7 : Option Value) (o8 : Option Value) (o9 : Option Value) (l10 : Nat)  : zeRun 193 195 [some (.ref 16), o1, o2, some (.long l3), none, o5, o6, o7, o8, o9] [] (zk (gB len l10) im lm) = zeBh 193 199 [some (.ref 16), o1, o2, some (.long l3), none, o5, o6, o7, o8, o9] [] (zeRun 146 0 [some (.ref 16)] [] (zk (gB len l10) im lm)) := ze_call (ok := true) rfl 2 rfl rfl rfl
theorem d_193_199 {len : Nat} {im : zI} {lm : zJ} (o1 : Option Value) (o2 : Option Value) (l3 : Int64) (o5 : Option Value) (o6 : Option Value) (o7 : Option Value) (o8 : Option Value) (o9 : Option Value) (l10 : Nat) (s0 : Int32)  : zeRun 193 199 [some (.ref 16), o1, o2, some (.long l3), none, o5, o6, o7, o8, o9] [.int s0] (zk (gB len l10) im lm) = if s0 < 0 then zeRun 193 215 [some (.ref 16), o1, o2, some (.long l3), none, o5, o6, o7, o8, o9] [] (zk (gB len l10) im lm) else zeRun 193 202 [some (.ref 16), o1, o2, some (.long l3), none, o5, o6, o7, o8, o9] [] (zk (gB len l10) im lm) := ze_if (ok := true) rfl 1 rfl rfl
theorem d_193_215 {len : Nat} {im : zI} {lm : zJ} (o0 : Option Value) (o1 : Option Value) (o2 : Option Value) (o3 : Option Value) (o4 : Option Value) (o5 : Option Value) (o6 : Option Value) (o7 : Option Value) (o8 : Option Value) (o9 : Option Value) (l10 : Nat)  : zeRun 193 215 [o0, o1, o2, o3, o4, o5, o6, o7, o8, o9] [] (zk (gB len l10) im lm) = some (some (.int 0), (zk (gB len l10) im lm)) := ze_ret (ok := true) rfl 2 rfl rfl
theorem d_193_202 {len : Nat} {im : zI} {lm : zJ} (o1 : Option Value) (o2 : Option Value) (l3 : Int64) (o5 : Option Value) (o6 : Option Value) (o7 : Option Value) (o8 : Option Value) (o9 : Option Value) (l10 : Nat)  : zeRun 193 202 [some (.ref 16), o1, o2, some (.long l3), none, o5, o6, o7, o8, o9] [] (zk (gB len l10) im lm) = zeBh 193 206 [some (.ref 16), o1, o2, some (.long l3), none, o5, o6, o7, o8, o9] [] (zeRun 192 0 [some (.ref 16), none, none, none, none] [] (zk (gB len l10) im lm)) := ze_call (ok := true) rfl 2 rfl rfl rfl
theorem d_193_206 {len : Nat} {im : zI} {lm : zJ} (o0 : Option Value) (o1 : Option Value) (o2 : Option Value) (l3 : Int64) (o5 : Option Value) (o6 : Option Value) (o7 : Option Value) (o8 : Option Value) (o9 : Option Value) (l10 : Nat) (s0 : Int64)  : zeRun 193 206 [o0, o1, o2, some (.long l3), none, o5, o6, o7, o8, o9] [.long s0] (zk (gB len l10) im lm) = if (lg_cmp s0 l3) = 0 then zeRun 193 211 [o0, o1, o2, some (.long l3), none, o5, o6, o7, o8, o9] [] (zk (gB len l10) im lm) else zeRun 193 215 [o0, o1, o2, some (.long l3), none, o5, o6, o7, o8, o9] [] (zk (gB len l10) im lm) := ze_if (ok := true) rfl 3 rfl rfl
theorem d_193_136 {len : Nat} {im : zI} {lm : zJ} (l1 : Int32) (l2 : Int32) (l3 : Int64) (l5 : Nat) (l6 : Int32) (l7 : Int32) (l8 : Int32) (l9 : Int32) (l10 : Nat)  : zeRun 193 136 [some (.ref 16), some (.int l1), some (.int l2), some (.long l3), none, some (.ref l5), some (.int l6), some (.int l7), some (.int l8), some (.int l9)] [] (zk (gB len l10) im lm) = zeRun 193 142 [some (.ref 16), some (.int l1), some (.int l2), some (.long l3), none, some (.ref l5), some (.int l6), some (.int l7), some (.int l8), some (.int l9)] [.int l9, .ref l5, .int l8] (zk (gB len l10) im lm) := ze_go (ok := true) rfl 3 rfl rfl
theorem d_193_142 {len : Nat} {im : zI} {lm : zJ} (l1 : Int32) (l2 : Int32) (l3 : Int64) (l5 : Nat) (l6 : Int32) (l7 : Int32) (o8 : Option Value) (l9 : Int32) (l10 : Nat) (s0 : Int32) (s1 : Nat) (s2 : Int32) (c0 : gC l10 s1 = true) (c1 : zeInb s2 6 = true) : zeRun 193 142 [some (.ref 16), some (.int l1), some (.int l2), some (.long l3), none, some (.ref l5), some (.int l6), some (.int l7), o8, some (.int l9)] [.int s2, .ref s1, .int s0] (zk (gB len l10) im lm) = zeRun 193 143 [some (.ref 16), some (.int l1), some (.int l2), some (.long l3), none, some (.ref l5), some (.int l6), some (.int l7), o8, some (.int l9)] [.int (im s1 (Int32.toNatClampNeg s2)), .int s0] (zk (gB len l10) im lm) := g_ld (i := 193) rfl (n := 143) rfl c0 c1
theorem d_193_143 {len : Nat} {im : zI} {lm : zJ} (l1 : Int32) (l2 : Int32) (l3 : Int64) (l5 : Nat) (l6 : Int32) (l7 : Int32) (o8 : Option Value) (l9 : Int32) (l10 : Nat) (s0 : Int32) (s1 : Int32)  : zeRun 193 143 [some (.ref 16), some (.int l1), some (.int l2), some (.long l3), none, some (.ref l5), some (.int l6), some (.int l7), o8, some (.int l9)] [.int s1, .int s0] (zk (gB len l10) im lm) = zeBh 193 150 [some (.ref 16), some (.int l1), some (.int l2), some (.long l3), none, some (.ref l5), some (.int l6), some (.int l7), o8, some (.int l9)] [.int s1, .int s0] (zeRun 156 0 [some (.ref 16), some (.int l9), some (.int 0)] [] (zk (gB len l10) im lm)) := ze_call (ok := true) rfl 4 rfl rfl rfl
theorem d_193_150 {len : Nat} {im : zI} {lm : zJ} (l1 : Int32) (l2 : Int32) (l3 : Int64) (l5 : Nat) (l6 : Int32) (l7 : Int32) (o8 : Option Value) (l9 : Int32) (l10 : Nat) (s0 : Int32) (s1 : Int32) (s2 : Int32)  : zeRun 193 150 [some (.ref 16), some (.int l1), some (.int l2), some (.long l3), none, some (.ref l5), some (.int l6), some (.int l7), o8, some (.int l9)] [.int s2, .int s1, .int s0] (zk (gB len l10) im lm) = if s1 = s2 then zeRun 193 157 [some (.ref 16), some (.int l1), some (.int l2), some (.long l3), none, some (.ref l5), some (.int l6), some (.int l7), o8, some (.int l9)] [.int s0] (zk (gB len l10) im lm) else zeRun 193 153 [some (.ref 16), some (.int l1), some (.int l2), some (.long l3), none, some (.ref l5), some (.int l6), some (.int l7), o8, some (.int l9)] [.int s0] (zk (gB len l10) im lm) := ze_if (ok := true) rfl 1 rfl rfl
theorem d_193_157 {len : Nat} {im : zI} {lm : zJ} (l1 : Int32) (l2 : Int32) (l3 : Int64) (l5 : Nat) (l6 : Int32) (l7 : Int32) (o8 : Option Value) (l9 : Int32) (l10 : Nat) (s0 : Int32)  : zeRun 193 157 [some (.ref 16), some (.int l1), some (.int l2), some (.long l3), none, some (.ref l5), some (.int l6), some (.int l7), o8, some (.int l9)] [.int s0] (zk (gB len l10) im lm) = zeRun 193 126 [some (.ref 16), some (.int l1), some (.int l2), some (.long l3), none, some (.ref l5), some (.int l6), some (.int l7), some (.int (s0 + 0)), some (.int (l9 + 1))] [] (zk (gB len l10) im lm) := ze_go (ok := true) rfl 5 rfl rfl
theorem d_193_153 {len : Nat} {im : zI} {lm : zJ} (l1 : Int32) (l2 : Int32) (l3 : Int64) (l5 : Nat) (l6 : Int32) (l7 : Int32) (o8 : Option Value) (l9 : Int32) (l10 : Nat) (s0 : Int32)  : zeRun 193 153 [some (.ref 16), some (.int l1), some (.int l2), some (.long l3), none, some (.ref l5), some (.int l6), some (.int l7), o8, some (.int l9)] [.int s0] (zk (gB len l10) im lm) = zeRun 193 126 [some (.ref 16), some (.int l1), some (.int l2), some (.long l3), none, some (.ref l5), some (.int l6), some (.int l7), some (.int (s0 + 1)), some (.int (l9 + 1))] [] (zk (gB len l10) im lm) := ze_go (ok := true) rfl 6 rfl rfl
def F_193_126  : Nat → Int32 → Int32 → Int64 → Nat → Int32 → Int32 → Int32 → Int32 → Nat → zI → zJ → zRn
  | 0, _, _, _, _, _, _, _, _, _, _, _ => none
  | n + 1, l1, l2, l3, l5, l6, l7, l8, l9, l10, im, lm =>
    zBp l10 (m_177 1 im lm) fun v1 im1 lm1 =>
    if v1 ≤ l9 then
      if l7 = l8 then
        zBp l10 (m_172 l2 5 im1 lm1) fun v2 im2 lm2 =>
        if v2 = (1 - l6) then
          if (l1 &&& 512) = 0 then
            some ((1, l10), im2, lm2)
          else
            zBp l10 (m_146  im2 lm2) fun v3 im3 lm3 =>
            if v3 < 0 then
              some ((0, l10), im3, lm3)
            else
              zBJ l10 (m_192  im3 lm3) fun v4 im4 lm4 =>
              some (if (lg_cmp v4 l3) = 0 then (1, l10) else (0, l10), im4, lm4)
        else
          some ((0, l10), im2, lm2)
      else
        some ((0, l10), im1, lm1)
    else
      zCkn (gC l10 l5) <|
      zCkn (zeInb l9 6) <|
      zBp l10 (m_156 l9 0 im1 lm1) fun v5 im5 lm5 =>
      F_193_126  n l1 l2 l3 l5 l6 l7 (if (im1 l5 (Int32.toNatClampNeg l9)) = v5 then (l8 + 0) else (l8 + 1)) (l9 + 1) l10 im5 lm5
theorem F_193_126_ok {len : Nat} : ∀ (n : Nat) (l1 : Int32) (l2 : Int32) (l3 : Int64) (l5 : Nat) (l6 : Int32) (l7 : Int32) (l8 : Int32) (l9 : Int32) (l10 : Nat)  (im : zI) (lm : zJ), zLn len (F_193_126  n l1 l2 l3 l5 l6 l7 l8 l9 l10 im lm) (zeRun 193 126 [some (.ref 16), some (.int l1), some (.int l2), some (.long l3), none, some (.ref l5), some (.int l6), some (.int l7), some (.int l8), some (.int l9)] [] (zk (gB len l10) im lm)) := by
  intro n
  induction n with
  | zero => intros; exact zLn_none
  | succ n ih =>
    intro l1 l2 l3 l5 l6 l7 l8 l9 l10 im lm
    unfold F_193_126
    refine zLn_bd (d_193_126 _ _ _ _ _ _ _ _ _) (m_177_ok _ _ _) fun v1 im1 lm1 => ?_
    refine zLn_if (d_193_133 _ _ _ _ _ _ _ _ _ _ _) (fun h => ?_) (fun h => ?_)
    · skip
      refine zLn_if (d_193_167 _ _ _ _ _ _ _ _ _) (fun h => ?_) (fun h => ?_)
      · skip
        refine zLn_bd (d_193_174 _ _ _ _ _ _ _ _ _) (m_172_ok _ _ _ _) fun v2 im2 lm2 => ?_
        refine zLn_if (d_193_180 _ _ _ _ _ _ _ _ _ _) (fun h => ?_) (fun h => ?_)
        · skip
          refine zLn_if (d_193_187 _ _ _ _ _ _ _ _ _) (fun h => ?_) (fun h => ?_)
          · skip
            exact zLn_ret (d_193_211 _ _ _ _ _ _ _ _ _ _ _)
          · skip
            refine zLn_bd (d_193_195 _ _ _ _ _ _ _ _ _) (m_146_ok _ _) fun v3 im3 lm3 => ?_
            refine zLn_if (d_193_199 _ _ _ _ _ _ _ _ _ _) (fun h => ?_) (fun h => ?_)
            · skip
              exact zLn_ret (d_193_215 _ _ _ _ _ _ _ _ _ _ _)
            · skip
              refine zLn_bdJ (d_193_202 _ _ _ _ _ _ _ _ _) (m_192_ok _ _) fun v4 im4 lm4 => ?_
              refine zLn_ifm (d_193_206 _ _ _ _ _ _ _ _ _ _ _) (fun h => ?_) (fun h => ?_)
              · repeat rw [if_pos h]
                exact zLn_ret (d_193_211 _ _ _ _ _ _ _ _ _ _ _)
              · repeat rw [if_neg h]
                exact zLn_ret (d_193_215 _ _ _ _ _ _ _ _ _ _ _)
        · skip
          exact zLn_ret (d_193_215 _ _ _ _ _ _ _ _ _ _ _)
      · skip
        exact zLn_ret (d_193_215 _ _ _ _ _ _ _ _ _ _ _)
    · skip
      refine zLn_eq (d_193_136 _ _ _ _ _ _ _ _ _) ?_
      refine zLn_ck fun c1 => ?_
      refine zLn_ck fun c2 => ?_
      refine zLn_eq (d_193_142 _ _ _ _ _ _ _ _ _ _ _ _ c1 c2) ?_
      refine zLn_bd (d_193_143 _ _ _ _ _ _ _ _ _ _ _) (m_156_ok _ _ _ _) fun v5 im5 lm5 => ?_
      refine zLn_ifm (d_193_150 _ _ _ _ _ _ _ _ _ _ _ _) (fun h => ?_) (fun h => ?_)
      · repeat rw [if_pos h]
        refine zLn_eq (d_193_157 _ _ _ _ _ _ _ _ _ _) ?_
        exact ih _ _ _ _ _ _ _ _ _ _ _
      · repeat rw [if_neg h]
        refine zLn_eq (d_193_153 _ _ _ _ _ _ _ _ _ _) ?_
        exact ih _ _ _ _ _ _ _ _ _ _ _
def F_193_85  : Nat → Int32 → Int32 → Int64 → Nat → Int32 → Int32 → Nat → zI → zJ → zRn
  | 0, _, _, _, _, _, _, _, _, _ => none
  | n + 1, l1, l2, l3, l5, l6, l7, l10, im, lm =>
    zBp l10 (m_177 1 im lm) fun v1 im1 lm1 =>
    if v1 ≤ l7 then
      zBp l10 (m_122 l2 im1 lm1) fun v2 im2 lm2 =>
      F_193_126  2000 l1 l2 l3 l5 l6 v2 0 0 l10 im2 lm2
    else
      zBp l10 (m_156 l7 0 im1 lm1) fun v3 im3 lm3 =>
      zCkn (gC l10 l5) <|
      zCkn (zeInb l7 6) <|
      F_193_85  n l1 l2 l3 l5 l6 (l7 + 1) l10 (zeU2 im3 l5 (Int32.toNatClampNeg l7) v3) lm3
theorem F_193_85_ok {len : Nat} : ∀ (n : Nat) (l1 : Int32) (l2 : Int32) (l3 : Int64) (l5 : Nat) (l6 : Int32) (l7 : Int32) (l10 : Nat) (o8 : Option Value) (o9 : Option Value) (im : zI) (lm : zJ), zLn len (F_193_85  n l1 l2 l3 l5 l6 l7 l10 im lm) (zeRun 193 85 [some (.ref 16), some (.int l1), some (.int l2), some (.long l3), none, some (.ref l5), some (.int l6), some (.int l7), o8, o9] [] (zk (gB len l10) im lm)) := by
  intro n
  induction n with
  | zero => intros; exact zLn_none
  | succ n ih =>
    intro l1 l2 l3 l5 l6 l7 l10 o8 o9 im lm
    unfold F_193_85
    refine zLn_bd (d_193_85 _ _ _ _ _ _ _ _ _) (m_177_ok _ _ _) fun v1 im1 lm1 => ?_
    refine zLn_if (d_193_92 _ _ _ _ _ _ _ _ _ _ _) (fun h => ?_) (fun h => ?_)
    · skip
      refine zLn_bd (d_193_113 _ _ _ _ _ _ _ _ _) (m_122_ok _ _ _) fun v2 im2 lm2 => ?_
      refine zLn_eq (d_193_118 _ _ _ _ _ _ _ _ _ _) ?_
      exact F_193_126_ok  _ _ _ _ _ _ _ _ _ _ _ _
    · skip
      refine zLn_bd (d_193_95 _ _ _ _ _ _ _ _ _) (m_156_ok _ _ _ _) fun v3 im3 lm3 => ?_
      refine zLn_ck fun c1 => ?_
      refine zLn_ck fun c2 => ?_
      refine zLn_eq (d_193_106 _ _ _ _ _ _ _ _ _ _ _ _ c1 c2) ?_
      refine zLn_eq (d_193_107 _ _ _ _ _ _ _ _ _) ?_
      exact ih _ _ _ _ _ _ _ _ _ _ _
def m_193 (l1 : Int32) (l10 : Nat) (im : zI) (lm : zJ) : zRn :=
    zBp l10 (m_177 5 im lm) fun v1 im1 lm1 =>
    zBp l10 (m_189 l1 (v1 + 1) im1 lm1) fun v2 im2 lm2 =>
    zBJ l10 (m_192  im2 lm2) fun v3 im3 lm3 =>
    zBp l10 (m_177 5 im3 lm3) fun v4 im4 lm4 =>
    if v2 = v4 then
      zBp l10 (m_122 v2 im4 lm4) fun v5 im5 lm5 =>
      some (if v5 = (-10000001) then (1, l10) else (0, l10), im5, lm5)
    else
      zBp l10 (m_172 v2 1 im4 lm4) fun v6 im6 lm6 =>
      if v6 = 4 then
        zBp l10 (m_122 v2 im6 lm6) fun v7 im7 lm7 =>
        some (if v7 = (-10000002) then (1, l10) else (0, l10), im7, lm7)
      else
        zCkn (Nat.ble 154 l10) <|
        zBp (l10 + 1) (m_172 v2 5 (zeU1 im6 (16 + l10) (fun _ => 0)) (zeU1 lm6 (16 + l10) (fun _ => 0))) fun v8 im8 lm8 =>
        F_193_85  2000 l1 v2 v3 (16 + l10) v8 0 (l10 + 1) im8 lm8
theorem m_193_ok {len : Nat} (l1 : Int32) (l10 : Nat) (im : zI) (lm : zJ) : zLn len (m_193 l1 l10 im lm) (zeRun 193 0 [some (.ref 16), some (.int l1), none, none, none, none, none, none, none, none] [] (zk (gB len l10) im lm)) := by
  unfold m_193
  refine zLn_bd (d_193_0 _ _ _ _ _ _ _ _ _ _) (m_177_ok _ _ _) fun v1 im1 lm1 => ?_
  refine zLn_bd (d_193_6 _ _ _ _ _ _ _ _ _ _ _ _) (m_189_ok _ _ _ _) fun v2 im2 lm2 => ?_
  refine zLn_bdJ (d_193_11 _ _ _ _ _ _ _ _ _ _ _) (m_192_ok _ _) fun v3 im3 lm3 => ?_
  refine zLn_bd (d_193_16 _ _ _ _ _ _ _ _ _ _ _) (m_177_ok _ _ _) fun v4 im4 lm4 => ?_
  refine zLn_if (d_193_23 _ _ _ _ _ _ _ _ _ _ _) (fun h => ?_) (fun h => ?_)
  · skip
    refine zLn_bd (d_193_26 _ _ _ _ _ _ _ _ _ _) (m_122_ok _ _ _) fun v5 im5 lm5 => ?_
    refine zLn_ifm (d_193_31 _ _ _ _ _ _ _ _ _ _ _ _) (fun h => ?_) (fun h => ?_)
    · repeat rw [if_pos h]
      exact zLn_ret (d_193_36 _ _ _ _ _ _ _ _ _ _ _)
    · repeat rw [if_neg h]
      exact zLn_ret (d_193_40 _ _ _ _ _ _ _ _ _ _ _)
  · skip
    refine zLn_bd (d_193_42 _ _ _ _ _ _ _ _ _) (m_172_ok _ _ _ _) fun v6 im6 lm6 => ?_
    refine zLn_if (d_193_48 _ _ _ _ _ _ _ _ _ _) (fun h => ?_) (fun h => ?_)
    · skip
      refine zLn_bd (d_193_52 _ _ _ _ _ _ _ _ _ _) (m_122_ok _ _ _) fun v7 im7 lm7 => ?_
      refine zLn_ifm (d_193_57 _ _ _ _ _ _ _ _ _ _ _ _) (fun h => ?_) (fun h => ?_)
      · repeat rw [if_pos h]
        exact zLn_ret (d_193_62 _ _ _ _ _ _ _ _ _ _ _)
      · repeat rw [if_neg h]
        exact zLn_ret (d_193_66 _ _ _ _ _ _ _ _ _ _ _)
    · skip
      refine zLn_ck fun c1 => ?_
      refine zLn_eq (d_193_68 _ _ _ _ _ _ _ _ _ c1) ?_
      refine zLn_bd (d_193_72 _ _ _ _ _ _ _ _ _ _) (m_172_ok _ _ _ _) fun v8 im8 lm8 => ?_
      refine zLn_eq (d_193_80 _ _ _ _ _ _ _ _ _ _) ?_
      exact F_193_85_ok  _ _ _ _ _ _ _ _ _ _ _ _
