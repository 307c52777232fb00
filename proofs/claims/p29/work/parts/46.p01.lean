/-! pure: X1_takeLatest, X3_copyFrom_46_19, X3_copyFrom_61_19, X3_copyFrom_76_19, X3_copyFrom_91_19, X3_copyFrom_106_19, X3_copyFrom_121_19, X3_copyFrom_137_19, X3_copyFrom_152_19, X3_copyFrom_19_46, X3_copyFrom_19_61, X3_copyFrom_19_76, X3_copyFrom_19_91, X3_copyFrom_19_106, X3_copyFrom_19_121, X3_copyFrom_19_137, X3_copyFrom_19_152, X0_copyFrom_50_23, X0_copyFrom_65_23, X0_copyFrom_80_23, X0_copyFrom_95_23, X0_copyFrom_110_23, X0_copyFrom_125_23, X0_copyFrom_141_23, X0_copyFrom_156_23, X0_copyFrom_23_50, X0_copyFrom_23_65, X0_copyFrom_23_80, X0_copyFrom_23_95, X0_copyFrom_23_110, X0_copyFrom_23_125, X0_copyFrom_23_141, X0_copyFrom_23_156, X2_copyFrom_53_26, X2_copyFrom_68_26, X2_copyFrom_83_26, X2_copyFrom_98_26, X2_copyFrom_113_26, X2_copyFrom_128_26, X2_copyFrom_144_26, X2_copyFrom_159_26, X2_copyFrom_26_53, X2_copyFrom_26_68, X2_copyFrom_26_83, X2_copyFrom_26_98, X2_copyFrom_26_113, X2_copyFrom_26_128, X2_copyFrom_26_144, X2_copyFrom_26_159, X6_copyFrom_44_17, X6_copyFrom_59_17, X6_copyFrom_74_17, X6_copyFrom_89_17, X6_copyFrom_104_17, X6_copyFrom_119_17, X6_copyFrom_135_17, X6_copyFrom_150_17 -/
/-! X1_takeLatest -/
theorem d_144_0 {B : zeB} {im : Nat → Nat → Int32} {lm : Nat → Nat → Int64}   : zeRun 144 0 [some (.ref 42)] [] (zk B im lm) = if (im 42 0) ≤ 0 then zeRun 144 38 [some (.ref 42)] [] (zk B im lm) else zeRun 144 7 [some (.ref 42)] [] (zk B im lm) := ze_if (ok := true) rfl 3 rfl rfl
theorem d_144_7 {B : zeB} {im : Nat → Nat → Int32} {lm : Nat → Nat → Int64}   : zeRun 144 7 [some (.ref 42)] [] (zk B im lm) = if (im 42 1) = 0 then zeRun 144 15 [some (.ref 42)] [.ref 42] (zk B im lm) else zeRun 144 19 [some (.ref 42)] [.ref 42] (zk B im lm) := ze_if (ok := true) rfl 4 rfl rfl
theorem d_144_15 {B : zeB} {im : Nat → Nat → Int32} {lm : Nat → Nat → Int64}   : zeRun 144 15 [some (.ref 42)] [.ref 42] (zk B im lm) = zeRun 144 25 [some (.ref 42)] [.int 5, .ref 42] (zk B im lm) := ze_go (ok := true) rfl 2 rfl rfl
theorem d_144_19 {B : zeB} {im : Nat → Nat → Int32} {lm : Nat → Nat → Int64}   : zeRun 144 19 [some (.ref 42)] [.ref 42] (zk B im lm) = zeRun 144 25 [some (.ref 42)] [.int ((im 42 1) - 1), .ref 42] (zk B im lm) := ze_go (ok := true) rfl 4 rfl rfl
theorem d_144_25 {B : zeB} {im : Nat → Nat → Int32} {lm : Nat → Nat → Int64} (s1 : Int32)  : zeRun 144 25 [some (.ref 42)] [.int s1, .ref 42] (zk B im lm) = zeRun 144 38 [some (.ref 42)] [] (zk B (zeU2 (zeU2 im 42 1 s1) 42 0 ((im 42 0) - 1)) lm) := ze_go (ok := true) rfl 7 rfl rfl
theorem d_144_38 {B : zeB} {im : Nat → Nat → Int32} {lm : Nat → Nat → Int64}   : zeRun 144 38 [some (.ref 42)] [] (zk B im lm) = zeRun 144 46 [some (.ref 42)] [.int (im 42 1), .ref 43] (zk B im lm) := ze_go (ok := true) rfl 4 rfl rfl
theorem d_144_46_0 {B : zeB} {im : Nat → Nat → Int32} {lm : Nat → Nat → Int64} (o0 : Option Value) (s1 : Int32) (c0 : zeInb s1 6 = true) (hx : Int32.toNatClampNeg s1 = 0) : zeRun 144 46 [o0] [.int s1, .ref 43] (zk B im lm) = zeRun 144 47 [o0] [.ref 44] (zk B im lm) := by
  have hy := (ze_go (i := 144) rfl 1 rfl (zeA2 c0 rfl) : zeRun 144 46 [o0] [.int s1, .ref 43] (zk B im lm) = _)
  exact hy.trans (by rw [hx]; rfl)
theorem d_144_46_1 {B : zeB} {im : Nat → Nat → Int32} {lm : Nat → Nat → Int64} (o0 : Option Value) (s1 : Int32) (c0 : zeInb s1 6 = true) (hx : Int32.toNatClampNeg s1 = 1) : zeRun 144 46 [o0] [.int s1, .ref 43] (zk B im lm) = zeRun 144 47 [o0] [.ref 59] (zk B im lm) := by
  have hy := (ze_go (i := 144) rfl 1 rfl (zeA2 c0 rfl) : zeRun 144 46 [o0] [.int s1, .ref 43] (zk B im lm) = _)
  exact hy.trans (by rw [hx]; rfl)
theorem d_144_46_2 {B : zeB} {im : Nat → Nat → Int32} {lm : Nat → Nat → Int64} (o0 : Option Value) (s1 : Int32) (c0 : zeInb s1 6 = true) (hx : Int32.toNatClampNeg s1 = 2) : zeRun 144 46 [o0] [.int s1, .ref 43] (zk B im lm) = zeRun 144 47 [o0] [.ref 74] (zk B im lm) := by
  have hy := (ze_go (i := 144) rfl 1 rfl (zeA2 c0 rfl) : zeRun 144 46 [o0] [.int s1, .ref 43] (zk B im lm) = _)
  exact hy.trans (by rw [hx]; rfl)
theorem d_144_46_3 {B : zeB} {im : Nat → Nat → Int32} {lm : Nat → Nat → Int64} (o0 : Option Value) (s1 : Int32) (c0 : zeInb s1 6 = true) (hx : Int32.toNatClampNeg s1 = 3) : zeRun 144 46 [o0] [.int s1, .ref 43] (zk B im lm) = zeRun 144 47 [o0] [.ref 89] (zk B im lm) := by
  have hy := (ze_go (i := 144) rfl 1 rfl (zeA2 c0 rfl) : zeRun 144 46 [o0] [.int s1, .ref 43] (zk B im lm) = _)
  exact hy.trans (by rw [hx]; rfl)
theorem d_144_46_4 {B : zeB} {im : Nat → Nat → Int32} {lm : Nat → Nat → Int64} (o0 : Option Value) (s1 : Int32) (c0 : zeInb s1 6 = true) (hx : Int32.toNatClampNeg s1 = 4) : zeRun 144 46 [o0] [.int s1, .ref 43] (zk B im lm) = zeRun 144 47 [o0] [.ref 104] (zk B im lm) := by
  have hy := (ze_go (i := 144) rfl 1 rfl (zeA2 c0 rfl) : zeRun 144 46 [o0] [.int s1, .ref 43] (zk B im lm) = _)
  exact hy.trans (by rw [hx]; rfl)
theorem d_144_46_5 {B : zeB} {im : Nat → Nat → Int32} {lm : Nat → Nat → Int64} (o0 : Option Value) (s1 : Int32) (c0 : zeInb s1 6 = true) (hx : Int32.toNatClampNeg s1 = 5) : zeRun 144 46 [o0] [.int s1, .ref 43] (zk B im lm) = zeRun 144 47 [o0] [.ref 119] (zk B im lm) := by
  have hy := (ze_go (i := 144) rfl 1 rfl (zeA2 c0 rfl) : zeRun 144 46 [o0] [.int s1, .ref 43] (zk B im lm) = _)
  exact hy.trans (by rw [hx]; rfl)
theorem d_144_47 {B : zeB} {im : Nat → Nat → Int32} {lm : Nat → Nat → Int64} (o0 : Option Value)  : zeRun 144 47 [o0] [.ref 44] (zk B im lm) = some (some (.ref 44), (zk B im lm)) := ze_ret (ok := true) rfl 1 rfl rfl
theorem d_144_47_2 {B : zeB} {im : Nat → Nat → Int32} {lm : Nat → Nat → Int64} (o0 : Option Value)  : zeRun 144 47 [o0] [.ref 59] (zk B im lm) = some (some (.ref 59), (zk B im lm)) := ze_ret (ok := true) rfl 1 rfl rfl
theorem d_144_47_3 {B : zeB} {im : Nat → Nat → Int32} {lm : Nat → Nat → Int64} (o0 : Option Value)  : zeRun 144 47 [o0] [.ref 74] (zk B im lm) = some (some (.ref 74), (zk B im lm)) := ze_ret (ok := true) rfl 1 rfl rfl
theorem d_144_47_4 {B : zeB} {im : Nat → Nat → Int32} {lm : Nat → Nat → Int64} (o0 : Option Value)  : zeRun 144 47 [o0] [.ref 89] (zk B im lm) = some (some (.ref 89), (zk B im lm)) := ze_ret (ok := true) rfl 1 rfl rfl
theorem d_144_47_5 {B : zeB} {im : Nat → Nat → Int32} {lm : Nat → Nat → Int64} (o0 : Option Value)  : zeRun 144 47 [o0] [.ref 104] (zk B im lm) = some (some (.ref 104), (zk B im lm)) := ze_ret (ok := true) rfl 1 rfl rfl
theorem d_144_47_6 {B : zeB} {im : Nat → Nat → Int32} {lm : Nat → Nat → Int64} (o0 : Option Value)  : zeRun 144 47 [o0] [.ref 119] (zk B im lm) = some (some (.ref 119), (zk B im lm)) := ze_ret (ok := true) rfl 1 rfl rfl
def J_144_38   (im : zI) (lm : zJ) : zR :=
    zCk (zeInb (im 42 1) 6) <|
    if Int32.toNatClampNeg (im 42 1) = 0 then
      some (44, im, lm)
    else
    if Int32.toNatClampNeg (im 42 1) = 1 then
      some (59, im, lm)
    else
    if Int32.toNatClampNeg (im 42 1) = 2 then
      some (74, im, lm)
    else
    if Int32.toNatClampNeg (im 42 1) = 3 then
      some (89, im, lm)
    else
    if Int32.toNatClampNeg (im 42 1) = 4 then
      some (104, im, lm)
    else
    if Int32.toNatClampNeg (im 42 1) = 5 then
      some (119, im, lm)
    else
    none
theorem J_144_38_ok {B : zeB}   (im : zI) (lm : zJ) : zL B 2 (J_144_38   im lm) (zeRun 144 38 [some (.ref 42)] [] (zk B im lm)) := by
  unfold J_144_38
  refine zL_eq d_144_38 ?_
  refine zL_ck fun c1 => ?_
  refine zL_aa (fun h => ?_) (fun h => ?_)
  · refine zL_eq (d_144_46_0 _ _ c1 h) ?_
    exact zL_retr (d_144_47 _) (by decide)
  refine zL_aa (fun h => ?_) (fun h => ?_)
  · refine zL_eq (d_144_46_1 _ _ c1 h) ?_
    exact zL_retr (d_144_47_2 _) (by decide)
  refine zL_aa (fun h => ?_) (fun h => ?_)
  · refine zL_eq (d_144_46_2 _ _ c1 h) ?_
    exact zL_retr (d_144_47_3 _) (by decide)
  refine zL_aa (fun h => ?_) (fun h => ?_)
  · refine zL_eq (d_144_46_3 _ _ c1 h) ?_
    exact zL_retr (d_144_47_4 _) (by decide)
  refine zL_aa (fun h => ?_) (fun h => ?_)
  · refine zL_eq (d_144_46_4 _ _ c1 h) ?_
    exact zL_retr (d_144_47_5 _) (by decide)
  refine zL_aa (fun h => ?_) (fun h => ?_)
  · refine zL_eq (d_144_46_5 _ _ c1 h) ?_
    exact zL_retr (d_144_47_6 _) (by decide)
  exact zL_none
def J_144_25  (s1 : Int32) (im : zI) (lm : zJ) : zR :=
    J_144_38    (zeU2 (zeU2 im 42 1 s1) 42 0 ((im 42 0) - 1)) lm
theorem J_144_25_ok {B : zeB} (s1 : Int32)  (im : zI) (lm : zJ) : zL B 2 (J_144_25  s1 im lm) (zeRun 144 25 [some (.ref 42)] [.int s1, .ref 42] (zk B im lm)) := by
  unfold J_144_25
  refine zL_eq (d_144_25 _) ?_
  exact J_144_38_ok   _ _
def m_144  (im : zI) (lm : zJ) : zR :=
    if (im 42 0) ≤ 0 then
      J_144_38    im lm
    else
      J_144_25   (if (im 42 1) = 0 then 5 else ((im 42 1) - 1)) im lm
theorem m_144_ok {B : zeB}  (im : zI) (lm : zJ) : zL B 2 (m_144  im lm) (zeRun 144 0 [some (.ref 42)] [] (zk B im lm)) := by
  unfold m_144
  refine zL_if d_144_0 (fun h => ?_) (fun h => ?_)
  · skip
    exact J_144_38_ok   _ _
  · skip
    refine zL_ifm d_144_7 (fun h => ?_) (fun h => ?_)
    · repeat rw [if_pos h]
      refine zL_eq d_144_15 ?_
      exact J_144_25_ok   _ _ _
    · repeat rw [if_neg h]
      refine zL_eq d_144_19 ?_
      exact J_144_25_ok   _ _ _
/-! X3_copyFrom_46_19 -/
theorem d_11_46_19_0 {B : zeB} {im : Nat → Nat → Int32} {lm : Nat → Nat → Int64}   : zeRun 11 0 [some (.ref 46), some (.ref 19)] [] (zk B im lm) = some (none, (zk B (zeCpy (zeU2 (zeU2 (zeU2 (zeU2 (zeU2 im 46 0 (im 19 0)) 46 1 (im 19 1)) 46 2 (im 19 2)) 46 3 (im 19 3)) 46 4 (im 19 4)) 20 0 47 0 6) (zeCpy (zeCpy lm 21 0 48 0 6) 22 0 49 0 6))) := ze_ret (ok := true) rfl 45 rfl rfl
def m_11_46_19  (im : zI) (lm : zJ) : zR :=
    some (0, (zeCpy (zeU2 (zeU2 (zeU2 (zeU2 (zeU2 im 46 0 (im 19 0)) 46 1 (im 19 1)) 46 2 (im 19 2)) 46 3 (im 19 3)) 46 4 (im 19 4)) 20 0 47 0 6), (zeCpy (zeCpy lm 21 0 48 0 6) 22 0 49 0 6))
theorem m_11_46_19_ok {B : zeB}  (im : zI) (lm : zJ) : zL B 0 (m_11_46_19  im lm) (zeRun 11 0 [some (.ref 46), some (.ref 19)] [] (zk B im lm)) := by
  unfold m_11_46_19
  exact zL_retv d_11_46_19_0
/-! X3_copyFrom_61_19 -/
theorem d_11_61_19_0 {B : zeB} {im : Nat → Nat → Int32} {lm : Nat → Nat → Int64}   : zeRun 11 0 [some (.ref 61), some (.ref 19)] [] (zk B im lm) = some (none, (zk B (zeCpy (zeU2 (zeU2 (zeU2 (zeU2 (zeU2 im 61 0 (im 19 0)) 61 1 (im 19 1)) 61 2 (im 19 2)) 61 3 (im 19 3)) 61 4 (im 19 4)) 20 0 62 0 6) (zeCpy (zeCpy lm 21 0 63 0 6) 22 0 64 0 6))) := ze_ret (ok := true) rfl 45 rfl rfl
def m_11_61_19  (im : zI) (lm : zJ) : zR :=
    some (0, (zeCpy (zeU2 (zeU2 (zeU2 (zeU2 (zeU2 im 61 0 (im 19 0)) 61 1 (im 19 1)) 61 2 (im 19 2)) 61 3 (im 19 3)) 61 4 (im 19 4)) 20 0 62 0 6), (zeCpy (zeCpy lm 21 0 63 0 6) 22 0 64 0 6))
theorem m_11_61_19_ok {B : zeB}  (im : zI) (lm : zJ) : zL B 0 (m_11_61_19  im lm) (zeRun 11 0 [some (.ref 61), some (.ref 19)] [] (zk B im lm)) := by
  unfold m_11_61_19
  exact zL_retv d_11_61_19_0
/-! X3_copyFrom_76_19 -/
theorem d_11_76_19_0 {B : zeB} {im : Nat → Nat → Int32} {lm : Nat → Nat → Int64}   : zeRun 11 0 [some (.ref 76), some (.ref 19)] [] (zk B im lm) = some (none, (zk B (zeCpy (zeU2 (zeU2 (zeU2 (zeU2 (zeU2 im 76 0 (im 19 0)) 76 1 (im 19 1)) 76 2 (im 19 2)) 76 3 (im 19 3)) 76 4 (im 19 4)) 20 0 77 0 6) (zeCpy (zeCpy lm 21 0 78 0 6) 22 0 79 0 6))) := ze_ret (ok := true) rfl 45 rfl rfl
def m_11_76_19  (im : zI) (lm : zJ) : zR :=
    some (0, (zeCpy (zeU2 (zeU2 (zeU2 (zeU2 (zeU2 im 76 0 (im 19 0)) 76 1 (im 19 1)) 76 2 (im 19 2)) 76 3 (im 19 3)) 76 4 (im 19 4)) 20 0 77 0 6), (zeCpy (zeCpy lm 21 0 78 0 6) 22 0 79 0 6))
theorem m_11_76_19_ok {B : zeB}  (im : zI) (lm : zJ) : zL B 0 (m_11_76_19  im lm) (zeRun 11 0 [some (.ref 76), some (.ref 19)] [] (zk B im lm)) := by
  unfold m_11_76_19
  exact zL_retv d_11_76_19_0
/-! X3_copyFrom_91_19 -/
theorem d_11_91_19_0 {B : zeB} {im : Nat → Nat → Int32} {lm : Nat → Nat → Int64}   : zeRun 11 0 [some (.ref 91), some (.ref 19)] [] (zk B im lm) = some (none, (zk B (zeCpy (zeU2 (zeU2 (zeU2 (zeU2 (zeU2 im 91 0 (im 19 0)) 91 1 (im 19 1)) 91 2 (im 19 2)) 91 3 (im 19 3)) 91 4 (im 19 4)) 20 0 92 0 6) (zeCpy (zeCpy lm 21 0 93 0 6) 22 0 94 0 6))) := ze_ret (ok := true) rfl 45 rfl rfl
def m_11_91_19  (im : zI) (lm : zJ) : zR :=
    some (0, (zeCpy (zeU2 (zeU2 (zeU2 (zeU2 (zeU2 im 91 0 (im 19 0)) 91 1 (im 19 1)) 91 2 (im 19 2)) 91 3 (im 19 3)) 91 4 (im 19 4)) 20 0 92 0 6), (zeCpy (zeCpy lm 21 0 93 0 6) 22 0 94 0 6))
theorem m_11_91_19_ok {B : zeB}  (im : zI) (lm : zJ) : zL B 0 (m_11_91_19  im lm) (zeRun 11 0 [some (.ref 91), some (.ref 19)] [] (zk B im lm)) := by
  unfold m_11_91_19
  exact zL_retv d_11_91_19_0
/-! X3_copyFrom_106_19 -/
theorem d_11_106_19_0 {B : zeB} {im : Nat → Nat → Int32} {lm : Nat → Nat → Int64}   : zeRun 11 0 [some (.ref 106), some (.ref 19)] [] (zk B im lm) = some (none, (zk B (zeCpy (zeU2 (zeU2 (zeU2 (zeU2 (zeU2 im 106 0 (im 19 0)) 106 1 (im 19 1)) 106 2 (im 19 2)) 106 3 (im 19 3)) 106 4 (im 19 4)) 20 0 107 0 6) (zeCpy (zeCpy lm 21 0 108 0 6) 22 0 109 0 6))) := ze_ret (ok := true) rfl 45 rfl rfl
def m_11_106_19  (im : zI) (lm : zJ) : zR :=
    some (0, (zeCpy (zeU2 (zeU2 (zeU2 (zeU2 (zeU2 im 106 0 (im 19 0)) 106 1 (im 19 1)) 106 2 (im 19 2)) 106 3 (im 19 3)) 106 4 (im 19 4)) 20 0 107 0 6), (zeCpy (zeCpy lm 21 0 108 0 6) 22 0 109 0 6))
theorem m_11_106_19_ok {B : zeB}  (im : zI) (lm : zJ) : zL B 0 (m_11_106_19  im lm) (zeRun 11 0 [some (.ref 106), some (.ref 19)] [] (zk B im lm)) := by
  unfold m_11_106_19
  exact zL_retv d_11_106_19_0
/-! X3_copyFrom_121_19 -/
theorem d_11_121_19_0 {B : zeB} {im : Nat → Nat → Int32} {lm : Nat → Nat → Int64}   : zeRun 11 0 [some (.ref 121), some (.ref 19)] [] (zk B im lm) = some (none, (zk B (zeCpy (zeU2 (zeU2 (zeU2 (zeU2 (zeU2 im 121 0 (im 19 0)) 121 1 (im 19 1)) 121 2 (im 19 2)) 121 3 (im 19 3)) 121 4 (im 19 4)) 20 0 122 0 6) (zeCpy (zeCpy lm 21 0 123 0 6) 22 0 124 0 6))) := ze_ret (ok := true) rfl 45 rfl rfl
def m_11_121_19  (im : zI) (lm : zJ) : zR :=
    some (0, (zeCpy (zeU2 (zeU2 (zeU2 (zeU2 (zeU2 im 121 0 (im 19 0)) 121 1 (im 19 1)) 121 2 (im 19 2)) 121 3 (im 19 3)) 121 4 (im 19 4)) 20 0 122 0 6), (zeCpy (zeCpy lm 21 0 123 0 6) 22 0 124 0 6))
theorem m_11_121_19_ok {B : zeB}  (im : zI) (lm : zJ) : zL B 0 (m_11_121_19  im lm) (zeRun 11 0 [some (.ref 121), some (.ref 19)] [] (zk B im lm)) := by
  unfold m_11_121_19
  exact zL_retv d_11_121_19_0
/-! X3_copyFrom_137_19 -/
theorem d_11_137_19_0 {B : zeB} {im : Nat → Nat → Int32} {lm : Nat → Nat → Int64}   : zeRun 11 0 [some (.ref 137), some (.ref 19)] [] (zk B im lm) = some (none, (zk B (zeCpy (zeU2 (zeU2 (zeU2 (zeU2 (zeU2 im 137 0 (im 19 0)) 137 1 (im 19 1)) 137 2 (im 19 2)) 137 3 (im 19 3)) 137 4 (im 19 4)) 20 0 138 0 6) (zeCpy (zeCpy lm 21 0 139 0 6) 22 0 140 0 6))) := ze_ret (ok := true) rfl 45 rfl rfl
def m_11_137_19  (im : zI) (lm : zJ) : zR :=
    some (0, (zeCpy (zeU2 (zeU2 (zeU2 (zeU2 (zeU2 im 137 0 (im 19 0)) 137 1 (im 19 1)) 137 2 (im 19 2)) 137 3 (im 19 3)) 137 4 (im 19 4)) 20 0 138 0 6), (zeCpy (zeCpy lm 21 0 139 0 6) 22 0 140 0 6))
theorem m_11_137_19_ok {B : zeB}  (im : zI) (lm : zJ) : zL B 0 (m_11_137_19  im lm) (zeRun 11 0 [some (.ref 137), some (.ref 19)] [] (zk B im lm)) := by
  unfold m_11_137_19
  exact zL_retv d_11_137_19_0
/-! X3_copyFrom_152_19 -/
theorem d_11_152_19_0 {B : zeB} {im : Nat → Nat → Int32} {lm : Nat → Nat → Int64}   : zeRun 11 0 [some (.ref 152), some (.ref 19)] [] (zk B im lm) = some (none, (zk B (zeCpy (zeU2 (zeU2 (zeU2 (zeU2 (zeU2 im 152 0 (im 19 0)) 152 1 (im 19 1)) 152 2 (im 19 2)) 152 3 (im 19 3)) 152 4 (im 19 4)) 20 0 153 0 6) (zeCpy (zeCpy lm 21 0 154 0 6) 22 0 155 0 6))) := ze_ret (ok := true) rfl 45 rfl rfl
def m_11_152_19  (im : zI) (lm : zJ) : zR :=
    some (0, (zeCpy (zeU2 (zeU2 (zeU2 (zeU2 (zeU2 im 152 0 (im 19 0)) 152 1 (im 19 1)) 152 2 (im 19 2)) 152 3 (im 19 3)) 152 4 (im 19 4)) 20 0 153 0 6), (zeCpy (zeCpy lm 21 0 154 0 6) 22 0 155 0 6))
theorem m_11_152_19_ok {B : zeB}  (im : zI) (lm : zJ) : zL B 0 (m_11_152_19  im lm) (zeRun 11 0 [some (.ref 152), some (.ref 19)] [] (zk B im lm)) := by
  unfold m_11_152_19
  exact zL_retv d_11_152_19_0
/-! X3_copyFrom_19_46 -/
theorem d_11_19_46_0 {B : zeB} {im : Nat → Nat → Int32} {lm : Nat → Nat → Int64}   : zeRun 11 0 [some (.ref 19), some (.ref 46)] [] (zk B im lm) = some (none, (zk B (zeCpy (zeU2 (zeU2 (zeU2 (zeU2 (zeU2 im 19 0 (im 46 0)) 19 1 (im 46 1)) 19 2 (im 46 2)) 19 3 (im 46 3)) 19 4 (im 46 4)) 47 0 20 0 6) (zeCpy (zeCpy lm 48 0 21 0 6) 49 0 22 0 6))) := ze_ret (ok := true) rfl 45 rfl rfl
def m_11_19_46  (im : zI) (lm : zJ) : zR :=
    some (0, (zeCpy (zeU2 (zeU2 (zeU2 (zeU2 (zeU2 im 19 0 (im 46 0)) 19 1 (im 46 1)) 19 2 (im 46 2)) 19 3 (im 46 3)) 19 4 (im 46 4)) 47 0 20 0 6), (zeCpy (zeCpy lm 48 0 21 0 6) 49 0 22 0 6))
theorem m_11_19_46_ok {B : zeB}  (im : zI) (lm : zJ) : zL B 0 (m_11_19_46  im lm) (zeRun 11 0 [some (.ref 19), some (.ref 46)] [] (zk B im lm)) := by
  unfold m_11_19_46
  exact zL_retv d_11_19_46_0
/-! X3_copyFrom_19_61 -/
theorem d_11_19_61_0 {B : zeB} {im : Nat → Nat → Int32} {lm : Nat → Nat → Int64}   : zeRun 11 0 [some (.ref 19), some (.ref 61)] [] (zk B im lm) = some (none, (zk B (zeCpy (zeU2 (zeU2 (zeU2 (zeU2 (zeU2 im 19 0 (im 61 0)) 19 1 (im 61 1)) 19 2 (im 61 2)) 19 3 (im 61 3)) 19 4 (im 61 4)) 62 0 20 0 6) (zeCpy (zeCpy lm 63 0 21 0 6) 64 0 22 0 6))) := ze_ret (ok := true) rfl 45 rfl rfl
def m_11_19_61  (im : zI) (lm : zJ) : zR :=
    some (0, (zeCpy (zeU2 (zeU2 (zeU2 (zeU2 (zeU2 im 19 0 (im 61 0)) 19 1 (im 61 1)) 19 2 (im 61 2)) 19 3 (im 61 3)) 19 4 (im 61 4)) 62 0 20 0 6), (zeCpy (zeCpy lm 63 0 21 0 6) 64 0 22 0 6))
theorem m_11_19_61_ok {B : zeB}  (im : zI) (lm : zJ) : zL B 0 (m_11_19_61  im lm) (zeRun 11 0 [some (.ref 19), some (.ref 61)] [] (zk B im lm)) := by
  unfold m_11_19_61
  exact zL_retv d_11_19_61_0
/-! X3_copyFrom_19_76 -/
theorem d_11_19_76_0 {B : zeB} {im : Nat → Nat → Int32} {lm : Nat → Nat → Int64}   : zeRun 11 0 [some (.ref 19), some (.ref 76)] [] (zk B im lm) = some (none, (zk B (zeCpy (zeU2 (zeU2 (zeU2 (zeU2 (zeU2 im 19 0 (im 76 0)) 19 1 (im 76 1)) 19 2 (im 76 2)) 19 3 (im 76 3)) 19 4 (im 76 4)) 77 0 20 0 6) (zeCpy (zeCpy lm 78 0 21 0 6) 79 0 22 0 6))) := ze_ret (ok := true) rfl 45 rfl rfl
def m_11_19_76  (im : zI) (lm : zJ) : zR :=
    some (0, (zeCpy (zeU2 (zeU2 (zeU2 (zeU2 (zeU2 im 19 0 (im 76 0)) 19 1 (im 76 1)) 19 2 (im 76 2)) 19 3 (im 76 3)) 19 4 (im 76 4)) 77 0 20 0 6), (zeCpy (zeCpy lm 78 0 21 0 6) 79 0 22 0 6))
theorem m_11_19_76_ok {B : zeB}  (im : zI) (lm : zJ) : zL B 0 (m_11_19_76  im lm) (zeRun 11 0 [some (.ref 19), some (.ref 76)] [] (zk B im lm)) := by
  unfold m_11_19_76
  exact zL_retv d_11_19_76_0
/-! X3_copyFrom_19_91 -/
theorem d_11_19_91_0 {B : zeB} {im : Nat → Nat → Int32} {lm : Nat → Nat → Int64}   : zeRun 11 0 [some (.ref 19), some (.ref 91)] [] (zk B im lm) = some (none, (zk B (zeCpy (zeU2 (zeU2 (zeU2 (zeU2 (zeU2 im 19 0 (im 91 0)) 19 1 (im 91 1)) 19 2 (im 91 2)) 19 3 (im 91 3)) 19 4 (im 91 4)) 92 0 20 0 6) (zeCpy (zeCpy lm 93 0 21 0 6) 94 0 22 0 6))) := ze_ret (ok := true) rfl 45 rfl rfl
def m_11_19_91  (im : zI) (lm : zJ) : zR :=
    some (0, (zeCpy (zeU2 (zeU2 (zeU2 (zeU2 (zeU2 im 19 0 (im 91 0)) 19 1 (im 91 1)) 19 2 (im 91 2)) 19 3 (im 91 3)) 19 4 (im 91 4)) 92 0 20 0 6), (zeCpy (zeCpy lm 93 0 21 0 6) 94 0 22 0 6))
theorem m_11_19_91_ok {B : zeB}  (im : zI) (lm : zJ) : zL B 0 (m_11_19_91  im lm) (zeRun 11 0 [some (.ref 19), some (.ref 91)] [] (zk B im lm)) := by
  unfold m_11_19_91
  exact zL_retv d_11_19_91_0
/-! X3_copyFrom_19_106 -/
theorem d_11_19_106_0 {B : zeB} {im : Nat → Nat → Int32} {lm : Nat → Nat → Int64}   : zeRun 11 0 [some (.ref 19), some (.ref 106)] [] (zk B im lm) = some (none, (zk B (zeCpy (zeU2 (zeU2 (zeU2 (zeU2 (zeU2 im 19 0 (im 106 0)) 19 1 (im 106 1)) 19 2 (im 106 2)) 19 3 (im 106 3)) 19 4 (im 106 4)) 107 0 20 0 6) (zeCpy (zeCpy lm 108 0 21 0 6) 109 0 22 0 6))) := ze_ret (ok := true) rfl 45 rfl rfl
def m_11_19_106  (im : zI) (lm : zJ) : zR :=
    some (0, (zeCpy (zeU2 (zeU2 (zeU2 (zeU2 (zeU2 im 19 0 (im 106 0)) 19 1 (im 106 1)) 19 2 (im 106 2)) 19 3 (im 106 3)) 19 4 (im 106 4)) 107 0 20 0 6), (zeCpy (zeCpy lm 108 0 21 0 6) 109 0 22 0 6))
theorem m_11_19_106_ok {B : zeB}  (im : zI) (lm : zJ) : zL B 0 (m_11_19_106  im lm) (zeRun 11 0 [some (.ref 19), some (.ref 106)] [] (zk B im lm)) := by
  unfold m_11_19_106
  exact zL_retv d_11_19_106_0
/-! X3_copyFrom_19_121 -/
theorem d_11_19_121_0 {B : zeB} {im : Nat → Nat → Int32} {lm : Nat → Nat → Int64}   : zeRun 11 0 [some (.ref 19), some (.ref 121)] [] (zk B im lm) = some (none, (zk B (zeCpy (zeU2 (zeU2 (zeU2 (zeU2 (zeU2 im 19 0 (im 121 0)) 19 1 (im 121 1)) 19 2 (im 121 2)) 19 3 (im 121 3)) 19 4 (im 121 4)) 122 0 20 0 6) (zeCpy (zeCpy lm 123 0 21 0 6) 124 0 22 0 6))) := ze_ret (ok := true) rfl 45 rfl rfl
def m_11_19_121  (im : zI) (lm : zJ) : zR :=
    some (0, (zeCpy (zeU2 (zeU2 (zeU2 (zeU2 (zeU2 im 19 0 (im 121 0)) 19 1 (im 121 1)) 19 2 (im 121 2)) 19 3 (im 121 3)) 19 4 (im 121 4)) 122 0 20 0 6), (zeCpy (zeCpy lm 123 0 21 0 6) 124 0 22 0 6))
theorem m_11_19_121_ok {B : zeB}  (im : zI) (lm : zJ) : zL B 0 (m_11_19_121  im lm) (zeRun 11 0 [some (.ref 19), some (.ref 121)] [] (zk B im lm)) := by
  unfold m_11_19_121
  exact zL_retv d_11_19_121_0
/-! X3_copyFrom_19_137 -/
theorem d_11_19_137_0 {B : zeB} {im : Nat → Nat → Int32} {lm : Nat → Nat → Int64}   : zeRun 11 0 [some (.ref 19), some (.ref 137)] [] (zk B im lm) = some (none, (zk B (zeCpy (zeU2 (zeU2 (zeU2 (zeU2 (zeU2 im 19 0 (im 137 0)) 19 1 (im 137 1)) 19 2 (im 137 2)) 19 3 (im 137 3)) 19 4 (im 137 4)) 138 0 20 0 6) (zeCpy (zeCpy lm 139 0 21 0 6) 140 0 22 0 6))) := ze_ret (ok := true) rfl 45 rfl rfl
def m_11_19_137  (im : zI) (lm : zJ) : zR :=
    some (0, (zeCpy (zeU2 (zeU2 (zeU2 (zeU2 (zeU2 im 19 0 (im 137 0)) 19 1 (im 137 1)) 19 2 (im 137 2)) 19 3 (im 137 3)) 19 4 (im 137 4)) 138 0 20 0 6), (zeCpy (zeCpy lm 139 0 21 0 6) 140 0 22 0 6))
theorem m_11_19_137_ok {B : zeB}  (im : zI) (lm : zJ) : zL B 0 (m_11_19_137  im lm) (zeRun 11 0 [some (.ref 19), some (.ref 137)] [] (zk B im lm)) := by
  unfold m_11_19_137
  exact zL_retv d_11_19_137_0
/-! X3_copyFrom_19_152 -/
theorem d_11_19_152_0 {B : zeB} {im : Nat → Nat → Int32} {lm : Nat → Nat → Int64}   : zeRun 11 0 [some (.ref 19), some (.ref 152)] [] (zk B im lm) = some (none, (zk B (zeCpy (zeU2 (zeU2 (zeU2 (zeU2 (zeU2 im 19 0 (im 152 0)) 19 1 (im 152 1)) 19 2 (im 152 2)) 19 3 (im 152 3)) 19 4 (im 152 4)) 153 0 20 0 6) (zeCpy (zeCpy lm 154 0 21 0 6) 155 0 22 0 6))) := ze_ret (ok := true) rfl 45 rfl rfl
def m_11_19_152  (im : zI) (lm : zJ) : zR :=
    some (0, (zeCpy (zeU2 (zeU2 (zeU2 (zeU2 (zeU2 im 19 0 (im 152 0)) 19 1 (im 152 1)) 19 2 (im 152 2)) 19 3 (im 152 3)) 19 4 (im 152 4)) 153 0 20 0 6), (zeCpy (zeCpy lm 154 0 21 0 6) 155 0 22 0 6))
theorem m_11_19_152_ok {B : zeB}  (im : zI) (lm : zJ) : zL B 0 (m_11_19_152  im lm) (zeRun 11 0 [some (.ref 19), some (.ref 152)] [] (zk B im lm)) := by
  unfold m_11_19_152
  exact zL_retv d_11_19_152_0
/-! X0_copyFrom_50_23 -/
theorem d_12_50_23_0 {B : zeB} {im : Nat → Nat → Int32} {lm : Nat → Nat → Int64}   : zeRun 12 0 [some (.ref 50), some (.ref 23)] [] (zk B im lm) = some (none, (zk B (zeCpy (zeCpy (zeU2 im 50 0 (im 23 0)) 24 0 51 0 6) 25 0 52 0 6) lm)) := ze_ret (ok := true) rfl 21 rfl rfl
def m_12_50_23  (im : zI) (lm : zJ) : zR :=
    some (0, (zeCpy (zeCpy (zeU2 im 50 0 (im 23 0)) 24 0 51 0 6) 25 0 52 0 6), lm)
theorem m_12_50_23_ok {B : zeB}  (im : zI) (lm : zJ) : zL B 0 (m_12_50_23  im lm) (zeRun 12 0 [some (.ref 50), some (.ref 23)] [] (zk B im lm)) := by
  unfold m_12_50_23
  exact zL_retv d_12_50_23_0
/-! X0_copyFrom_65_23 -/
theorem d_12_65_23_0 {B : zeB} {im : Nat → Nat → Int32} {lm : Nat → Nat → Int64}   : zeRun 12 0 [some (.ref 65), some (.ref 23)] [] (zk B im lm) = some (none, (zk B (zeCpy (zeCpy (zeU2 im 65 0 (im 23 0)) 24 0 66 0 6) 25 0 67 0 6) lm)) := ze_ret (ok := true) rfl 21 rfl rfl
def m_12_65_23  (im : zI) (lm : zJ) : zR :=
    some (0, (zeCpy (zeCpy (zeU2 im 65 0 (im 23 0)) 24 0 66 0 6) 25 0 67 0 6), lm)
theorem m_12_65_23_ok {B : zeB}  (im : zI) (lm : zJ) : zL B 0 (m_12_65_23  im lm) (zeRun 12 0 [some (.ref 65), some (.ref 23)] [] (zk B im lm)) := by
  unfold m_12_65_23
  exact zL_retv d_12_65_23_0
/-! X0_copyFrom_80_23 -/
theorem d_12_80_23_0 {B : zeB} {im : Nat → Nat → Int32} {lm : Nat → Nat → Int64}   : zeRun 12 0 [some (.ref 80), some (.ref 23)] [] (zk B im lm) = some (none, (zk B (zeCpy (zeCpy (zeU2 im 80 0 (im 23 0)) 24 0 81 0 6) 25 0 82 0 6) lm)) := ze_ret (ok := true) rfl 21 rfl rfl
def m_12_80_23  (im : zI) (lm : zJ) : zR :=
    some (0, (zeCpy (zeCpy (zeU2 im 80 0 (im 23 0)) 24 0 81 0 6) 25 0 82 0 6), lm)
theorem m_12_80_23_ok {B : zeB}  (im : zI) (lm : zJ) : zL B 0 (m_12_80_23  im lm) (zeRun 12 0 [some (.ref 80), some (.ref 23)] [] (zk B im lm)) := by
  unfold m_12_80_23
  exact zL_retv d_12_80_23_0
/-! X0_copyFrom_95_23 -/
theorem d_12_95_23_0 {B : zeB} {im : Nat → Nat → Int32} {lm : Nat → Nat → Int64}   : zeRun 12 0 [some (.ref 95), some (.ref 23)] [] (zk B im lm) = some (none, (zk B (zeCpy (zeCpy (zeU2 im 95 0 (im 23 0)) 24 0 96 0 6) 25 0 97 0 6) lm)) := ze_ret (ok := true) rfl 21 rfl rfl
def m_12_95_23  (im : zI) (lm : zJ) : zR :=
    some (0, (zeCpy (zeCpy (zeU2 im 95 0 (im 23 0)) 24 0 96 0 6) 25 0 97 0 6), lm)
theorem m_12_95_23_ok {B : zeB}  (im : zI) (lm : zJ) : zL B 0 (m_12_95_23  im lm) (zeRun 12 0 [some (.ref 95), some (.ref 23)] [] (zk B im lm)) := by
  unfold m_12_95_23
  exact zL_retv d_12_95_23_0
/-! X0_copyFrom_110_23 -/
theorem d_12_110_23_0 {B : zeB} {im : Nat → Nat → Int32} {lm : Nat → Nat → Int64}   : zeRun 12 0 [some (.ref 110), some (.ref 23)] [] (zk B im lm) = some (none, (zk B (zeCpy (zeCpy (zeU2 im 110 0 (im 23 0)) 24 0 111 0 6) 25 0 112 0 6) lm)) := ze_ret (ok := true) rfl 21 rfl rfl
def m_12_110_23  (im : zI) (lm : zJ) : zR :=
    some (0, (zeCpy (zeCpy (zeU2 im 110 0 (im 23 0)) 24 0 111 0 6) 25 0 112 0 6), lm)
theorem m_12_110_23_ok {B : zeB}  (im : zI) (lm : zJ) : zL B 0 (m_12_110_23  im lm) (zeRun 12 0 [some (.ref 110), some (.ref 23)] [] (zk B im lm)) := by
  unfold m_12_110_23
  exact zL_retv d_12_110_23_0
/-! X0_copyFrom_125_23 -/
theorem d_12_125_23_0 {B : zeB} {im : Nat → Nat → Int32} {lm : Nat → Nat → Int64}   : zeRun 12 0 [some (.ref 125), some (.ref 23)] [] (zk B im lm) = some (none, (zk B (zeCpy (zeCpy (zeU2 im 125 0 (im 23 0)) 24 0 126 0 6) 25 0 127 0 6) lm)) := ze_ret (ok := true) rfl 21 rfl rfl
def m_12_125_23  (im : zI) (lm : zJ) : zR :=
    some (0, (zeCpy (zeCpy (zeU2 im 125 0 (im 23 0)) 24 0 126 0 6) 25 0 127 0 6), lm)
theorem m_12_125_23_ok {B : zeB}  (im : zI) (lm : zJ) : zL B 0 (m_12_125_23  im lm) (zeRun 12 0 [some (.ref 125), some (.ref 23)] [] (zk B im lm)) := by
  unfold m_12_125_23
  exact zL_retv d_12_125_23_0
/-! X0_copyFrom_141_23 -/
theorem d_12_141_23_0 {B : zeB} {im : Nat → Nat → Int32} {lm : Nat → Nat → Int64}   : zeRun 12 0 [some (.ref 141), some (.ref 23)] [] (zk B im lm) = some (none, (zk B (zeCpy (zeCpy (zeU2 im 141 0 (im 23 0)) 24 0 142 0 6) 25 0 143 0 6) lm)) := ze_ret (ok := true) rfl 21 rfl rfl
def m_12_141_23  (im : zI) (lm : zJ) : zR :=
    some (0, (zeCpy (zeCpy (zeU2 im 141 0 (im 23 0)) 24 0 142 0 6) 25 0 143 0 6), lm)
theorem m_12_141_23_ok {B : zeB}  (im : zI) (lm : zJ) : zL B 0 (m_12_141_23  im lm) (zeRun 12 0 [some (.ref 141), some (.ref 23)] [] (zk B im lm)) := by
  unfold m_12_141_23
  exact zL_retv d_12_141_23_0
/-! X0_copyFrom_156_23 -/
theorem d_12_156_23_0 {B : zeB} {im : Nat → Nat → Int32} {lm : Nat → Nat → Int64}   : zeRun 12 0 [some (.ref 156), some (.ref 23)] [] (zk B im lm) = some (none, (zk B (zeCpy (zeCpy (zeU2 im 156 0 (im 23 0)) 24 0 157 0 6) 25 0 158 0 6) lm)) := ze_ret (ok := true) rfl 21 rfl rfl
def m_12_156_23  (im : zI) (lm : zJ) : zR :=
    some (0, (zeCpy (zeCpy (zeU2 im 156 0 (im 23 0)) 24 0 157 0 6) 25 0 158 0 6), lm)
theorem m_12_156_23_ok {B : zeB}  (im : zI) (lm : zJ) : zL B 0 (m_12_156_23  im lm) (zeRun 12 0 [some (.ref 156), some (.ref 23)] [] (zk B im lm)) := by
  unfold m_12_156_23
  exact zL_retv d_12_156_23_0
/-! X0_copyFrom_23_50 -/
theorem d_12_23_50_0 {B : zeB} {im : Nat → Nat → Int32} {lm : Nat → Nat → Int64}   : zeRun 12 0 [some (.ref 23), some (.ref 50)] [] (zk B im lm) = some (none, (zk B (zeCpy (zeCpy (zeU2 im 23 0 (im 50 0)) 51 0 24 0 6) 52 0 25 0 6) lm)) := ze_ret (ok := true) rfl 21 rfl rfl
def m_12_23_50  (im : zI) (lm : zJ) : zR :=
    some (0, (zeCpy (zeCpy (zeU2 im 23 0 (im 50 0)) 51 0 24 0 6) 52 0 25 0 6), lm)
theorem m_12_23_50_ok {B : zeB}  (im : zI) (lm : zJ) : zL B 0 (m_12_23_50  im lm) (zeRun 12 0 [some (.ref 23), some (.ref 50)] [] (zk B im lm)) := by
  unfold m_12_23_50
  exact zL_retv d_12_23_50_0
/-! X0_copyFrom_23_65 -/
theorem d_12_23_65_0 {B : zeB} {im : Nat → Nat → Int32} {lm : Nat → Nat → Int64}   : zeRun 12 0 [some (.ref 23), some (.ref 65)] [] (zk B im lm) = some (none, (zk B (zeCpy (zeCpy (zeU2 im 23 0 (im 65 0)) 66 0 24 0 6) 67 0 25 0 6) lm)) := ze_ret (ok := true) rfl 21 rfl rfl
def m_12_23_65  (im : zI) (lm : zJ) : zR :=
    some (0, (zeCpy (zeCpy (zeU2 im 23 0 (im 65 0)) 66 0 24 0 6) 67 0 25 0 6), lm)
theorem m_12_23_65_ok {B : zeB}  (im : zI) (lm : zJ) : zL B 0 (m_12_23_65  im lm) (zeRun 12 0 [some (.ref 23), some (.ref 65)] [] (zk B im lm)) := by
  unfold m_12_23_65
  exact zL_retv d_12_23_65_0
/-! X0_copyFrom_23_80 -/
theorem d_12_23_80_0 {B : zeB} {im : Nat → Nat → Int32} {lm : Nat → Nat → Int64}   : zeRun 12 0 [some (.ref 23), some (.ref 80)] [] (zk B im lm) = some (none, (zk B (zeCpy (zeCpy (zeU2 im 23 0 (im 80 0)) 81 0 24 0 6) 82 0 25 0 6) lm)) := ze_ret (ok := true) rfl 21 rfl rfl
def m_12_23_80  (im : zI) (lm : zJ) : zR :=
    some (0, (zeCpy (zeCpy (zeU2 im 23 0 (im 80 0)) 81 0 24 0 6) 82 0 25 0 6), lm)
theorem m_12_23_80_ok {B : zeB}  (im : zI) (lm : zJ) : zL B 0 (m_12_23_80  im lm) (zeRun 12 0 [some (.ref 23), some (.ref 80)] [] (zk B im lm)) := by
  unfold m_12_23_80
  exact zL_retv d_12_23_80_0
/-! X0_copyFrom_23_95 -/
theorem d_12_23_95_0 {B : zeB} {im : Nat → Nat → Int32} {lm : Nat → Nat → Int64}   : zeRun 12 0 [some (.ref 23), some (.ref 95)] [] (zk B im lm) = some (none, (zk B (zeCpy (zeCpy (zeU2 im 23 0 (im 95 0)) 96 0 24 0 6) 97 0 25 0 6) lm)) := ze_ret (ok := true) rfl 21 rfl rfl
def m_12_23_95  (im : zI) (lm : zJ) : zR :=
    some (0, (zeCpy (zeCpy (zeU2 im 23 0 (im 95 0)) 96 0 24 0 6) 97 0 25 0 6), lm)
theorem m_12_23_95_ok {B : zeB}  (im : zI) (lm : zJ) : zL B 0 (m_12_23_95  im lm) (zeRun 12 0 [some (.ref 23), some (.ref 95)] [] (zk B im lm)) := by
  unfold m_12_23_95
  exact zL_retv d_12_23_95_0
/-! X0_copyFrom_23_110 -/
theorem d_12_23_110_0 {B : zeB} {im : Nat → Nat → Int32} {lm : Nat → Nat → Int64}   : zeRun 12 0 [some (.ref 23), some (.ref 110)] [] (zk B im lm) = some (none, (zk B (zeCpy (zeCpy (zeU2 im 23 0 (im 110 0)) 111 0 24 0 6) 112 0 25 0 6) lm)) := ze_ret (ok := true) rfl 21 rfl rfl
def m_12_23_110  (im : zI) (lm : zJ) : zR :=
    some (0, (zeCpy (zeCpy (zeU2 im 23 0 (im 110 0)) 111 0 24 0 6) 112 0 25 0 6), lm)
theorem m_12_23_110_ok {B : zeB}  (im : zI) (lm : zJ) : zL B 0 (m_12_23_110  im lm) (zeRun 12 0 [some (.ref 23), some (.ref 110)] [] (zk B im lm)) := by
  unfold m_12_23_110
  exact zL_retv d_12_23_110_0
/-! X0_copyFrom_23_125 -/
theorem d_12_23_125_0 {B : zeB} {im : Nat → Nat → Int32} {lm : Nat → Nat → Int64}   : zeRun 12 0 [some (.ref 23), some (.ref 125)] [] (zk B im lm) = some (none, (zk B (zeCpy (zeCpy (zeU2 im 23 0 (im 125 0)) 126 0 24 0 6) 127 0 25 0 6) lm)) := ze_ret (ok := true) rfl 21 rfl rfl
def m_12_23_125  (im : zI) (lm : zJ) : zR :=
    some (0, (zeCpy (zeCpy (zeU2 im 23 0 (im 125 0)) 126 0 24 0 6) 127 0 25 0 6), lm)
theorem m_12_23_125_ok {B : zeB}  (im : zI) (lm : zJ) : zL B 0 (m_12_23_125  im lm) (zeRun 12 0 [some (.ref 23), some (.ref 125)] [] (zk B im lm)) := by
  unfold m_12_23_125
  exact zL_retv d_12_23_125_0
/-! X0_copyFrom_23_141 -/
theorem d_12_23_141_0 {B : zeB} {im : Nat → Nat → Int32} {lm : Nat → Nat → Int64}   : zeRun 12 0 [some (.ref 23), some (.ref 141)] [] (zk B im lm) = some (none, (zk B (zeCpy (zeCpy (zeU2 im 23 0 (im 141 0)) 142 0 24 0 6) 143 0 25 0 6) lm)) := ze_ret (ok := true) rfl 21 rfl rfl
def m_12_23_141  (im : zI) (lm : zJ) : zR :=
    some (0, (zeCpy (zeCpy (zeU2 im 23 0 (im 141 0)) 142 0 24 0 6) 143 0 25 0 6), lm)
theorem m_12_23_141_ok {B : zeB}  (im : zI) (lm : zJ) : zL B 0 (m_12_23_141  im lm) (zeRun 12 0 [some (.ref 23), some (.ref 141)] [] (zk B im lm)) := by
  unfold m_12_23_141
  exact zL_retv d_12_23_141_0
/-! X0_copyFrom_23_156 -/
theorem d_12_23_156_0 {B : zeB} {im : Nat → Nat → Int32} {lm : Nat → Nat → Int64}   : zeRun 12 0 [some (.ref 23), some (.ref 156)] [] (zk B im lm) = some (none, (zk B (zeCpy (zeCpy (zeU2 im 23 0 (im 156 0)) 157 0 24 0 6) 158 0 25 0 6) lm)) := ze_ret (ok := true) rfl 21 rfl rfl
def m_12_23_156  (im : zI) (lm : zJ) : zR :=
    some (0, (zeCpy (zeCpy (zeU2 im 23 0 (im 156 0)) 157 0 24 0 6) 158 0 25 0 6), lm)
theorem m_12_23_156_ok {B : zeB}  (im : zI) (lm : zJ) : zL B 0 (m_12_23_156  im lm) (zeRun 12 0 [some (.ref 23), some (.ref 156)] [] (zk B im lm)) := by
  unfold m_12_23_156
  exact zL_retv d_12_23_156_0
/-! X2_copyFrom_53_26 -/
theorem d_13_53_26_0 {B : zeB} {im : Nat → Nat → Int32} {lm : Nat → Nat → Int64}   : zeRun 13 0 [some (.ref 53), some (.ref 26)] [] (zk B im lm) = some (none, (zk B (zeCpy (zeCpy (zeCpy (zeCpy (zeCpy (zeU2 im 53 0 (im 26 0)) 27 0 54 0 60) 28 0 55 0 60) 29 0 56 0 60) 30 0 57 0 60) 31 0 58 0 60) lm)) := ze_ret (ok := true) rfl 45 rfl rfl
def m_13_53_26  (im : zI) (lm : zJ) : zR :=
    some (0, (zeCpy (zeCpy (zeCpy (zeCpy (zeCpy (zeU2 im 53 0 (im 26 0)) 27 0 54 0 60) 28 0 55 0 60) 29 0 56 0 60) 30 0 57 0 60) 31 0 58 0 60), lm)
theorem m_13_53_26_ok {B : zeB}  (im : zI) (lm : zJ) : zL B 0 (m_13_53_26  im lm) (zeRun 13 0 [some (.ref 53), some (.ref 26)] [] (zk B im lm)) := by
  unfold m_13_53_26
  exact zL_retv d_13_53_26_0
/-! X2_copyFrom_68_26 -/
theorem d_13_68_26_0 {B : zeB} {im : Nat → Nat → Int32} {lm : Nat → Nat → Int64}   : zeRun 13 0 [some (.ref 68), some (.ref 26)] [] (zk B im lm) = some (none, (zk B (zeCpy (zeCpy (zeCpy (zeCpy (zeCpy (zeU2 im 68 0 (im 26 0)) 27 0 69 0 60) 28 0 70 0 60) 29 0 71 0 60) 30 0 72 0 60) 31 0 73 0 60) lm)) := ze_ret (ok := true) rfl 45 rfl rfl
def m_13_68_26  (im : zI) (lm : zJ) : zR :=
    some (0, (zeCpy (zeCpy (zeCpy (zeCpy (zeCpy (zeU2 im 68 0 (im 26 0)) 27 0 69 0 60) 28 0 70 0 60) 29 0 71 0 60) 30 0 72 0 60) 31 0 73 0 60), lm)
theorem m_13_68_26_ok {B : zeB}  (im : zI) (lm : zJ) : zL B 0 (m_13_68_26  im lm) (zeRun 13 0 [some (.ref 68), some (.ref 26)] [] (zk B im lm)) := by
  unfold m_13_68_26
  exact zL_retv d_13_68_26_0
/-! X2_copyFrom_83_26 -/
theorem d_13_83_26_0 {B : zeB} {im : Nat → Nat → Int32} {lm : Nat → Nat → Int64}   : zeRun 13 0 [some (.ref 83), some (.ref 26)] [] (zk B im lm) = some (none, (zk B (zeCpy (zeCpy (zeCpy (zeCpy (zeCpy (zeU2 im 83 0 (im 26 0)) 27 0 84 0 60) 28 0 85 0 60) 29 0 86 0 60) 30 0 87 0 60) 31 0 88 0 60) lm)) := ze_ret (ok := true) rfl 45 rfl rfl
def m_13_83_26  (im : zI) (lm : zJ) : zR :=
    some (0, (zeCpy (zeCpy (zeCpy (zeCpy (zeCpy (zeU2 im 83 0 (im 26 0)) 27 0 84 0 60) 28 0 85 0 60) 29 0 86 0 60) 30 0 87 0 60) 31 0 88 0 60), lm)
theorem m_13_83_26_ok {B : zeB}  (im : zI) (lm : zJ) : zL B 0 (m_13_83_26  im lm) (zeRun 13 0 [some (.ref 83), some (.ref 26)] [] (zk B im lm)) := by
  unfold m_13_83_26
  exact zL_retv d_13_83_26_0
/-! X2_copyFrom_98_26 -/
theorem d_13_98_26_0 {B : zeB} {im : Nat → Nat → Int32} {lm : Nat → Nat → Int64}   : zeRun 13 0 [some (.ref 98), some (.ref 26)] [] (zk B im lm) = some (none, (zk B (zeCpy (zeCpy (zeCpy (zeCpy (zeCpy (zeU2 im 98 0 (im 26 0)) 27 0 99 0 60) 28 0 100 0 60) 29 0 101 0 60) 30 0 102 0 60) 31 0 103 0 60) lm)) := ze_ret (ok := true) rfl 45 rfl rfl
def m_13_98_26  (im : zI) (lm : zJ) : zR :=
    some (0, (zeCpy (zeCpy (zeCpy (zeCpy (zeCpy (zeU2 im 98 0 (im 26 0)) 27 0 99 0 60) 28 0 100 0 60) 29 0 101 0 60) 30 0 102 0 60) 31 0 103 0 60), lm)
theorem m_13_98_26_ok {B : zeB}  (im : zI) (lm : zJ) : zL B 0 (m_13_98_26  im lm) (zeRun 13 0 [some (.ref 98), some (.ref 26)] [] (zk B im lm)) := by
  unfold m_13_98_26
  exact zL_retv d_13_98_26_0
/-! X2_copyFrom_113_26 -/
theorem d_13_113_26_0 {B : zeB} {im : Nat → Nat → Int32} {lm : Nat → Nat → Int64}   : zeRun 13 0 [some (.ref 113), some (.ref 26)] [] (zk B im lm) = some (none, (zk B (zeCpy (zeCpy (zeCpy (zeCpy (zeCpy (zeU2 im 113 0 (im 26 0)) 27 0 114 0 60) 28 0 115 0 60) 29 0 116 0 60) 30 0 117 0 60) 31 0 118 0 60) lm)) := ze_ret (ok := true) rfl 45 rfl rfl
def m_13_113_26  (im : zI) (lm : zJ) : zR :=
    some (0, (zeCpy (zeCpy (zeCpy (zeCpy (zeCpy (zeU2 im 113 0 (im 26 0)) 27 0 114 0 60) 28 0 115 0 60) 29 0 116 0 60) 30 0 117 0 60) 31 0 118 0 60), lm)
theorem m_13_113_26_ok {B : zeB}  (im : zI) (lm : zJ) : zL B 0 (m_13_113_26  im lm) (zeRun 13 0 [some (.ref 113), some (.ref 26)] [] (zk B im lm)) := by
  unfold m_13_113_26
  exact zL_retv d_13_113_26_0
/-! X2_copyFrom_128_26 -/
theorem d_13_128_26_0 {B : zeB} {im : Nat → Nat → Int32} {lm : Nat → Nat → Int64}   : zeRun 13 0 [some (.ref 128), some (.ref 26)] [] (zk B im lm) = some (none, (zk B (zeCpy (zeCpy (zeCpy (zeCpy (zeCpy (zeU2 im 128 0 (im 26 0)) 27 0 129 0 60) 28 0 130 0 60) 29 0 131 0 60) 30 0 132 0 60) 31 0 133 0 60) lm)) := ze_ret (ok := true) rfl 45 rfl rfl
def m_13_128_26  (im : zI) (lm : zJ) : zR :=
    some (0, (zeCpy (zeCpy (zeCpy (zeCpy (zeCpy (zeU2 im 128 0 (im 26 0)) 27 0 129 0 60) 28 0 130 0 60) 29 0 131 0 60) 30 0 132 0 60) 31 0 133 0 60), lm)
theorem m_13_128_26_ok {B : zeB}  (im : zI) (lm : zJ) : zL B 0 (m_13_128_26  im lm) (zeRun 13 0 [some (.ref 128), some (.ref 26)] [] (zk B im lm)) := by
  unfold m_13_128_26
  exact zL_retv d_13_128_26_0
/-! X2_copyFrom_144_26 -/
theorem d_13_144_26_0 {B : zeB} {im : Nat → Nat → Int32} {lm : Nat → Nat → Int64}   : zeRun 13 0 [some (.ref 144), some (.ref 26)] [] (zk B im lm) = some (none, (zk B (zeCpy (zeCpy (zeCpy (zeCpy (zeCpy (zeU2 im 144 0 (im 26 0)) 27 0 145 0 60) 28 0 146 0 60) 29 0 147 0 60) 30 0 148 0 60) 31 0 149 0 60) lm)) := ze_ret (ok := true) rfl 45 rfl rfl
def m_13_144_26  (im : zI) (lm : zJ) : zR :=
    some (0, (zeCpy (zeCpy (zeCpy (zeCpy (zeCpy (zeU2 im 144 0 (im 26 0)) 27 0 145 0 60) 28 0 146 0 60) 29 0 147 0 60) 30 0 148 0 60) 31 0 149 0 60), lm)
theorem m_13_144_26_ok {B : zeB}  (im : zI) (lm : zJ) : zL B 0 (m_13_144_26  im lm) (zeRun 13 0 [some (.ref 144), some (.ref 26)] [] (zk B im lm)) := by
  unfold m_13_144_26
  exact zL_retv d_13_144_26_0
/-! X2_copyFrom_159_26 -/
theorem d_13_159_26_0 {B : zeB} {im : Nat → Nat → Int32} {lm : Nat → Nat → Int64}   : zeRun 13 0 [some (.ref 159), some (.ref 26)] [] (zk B im lm) = some (none, (zk B (zeCpy (zeCpy (zeCpy (zeCpy (zeCpy (zeU2 im 159 0 (im 26 0)) 27 0 160 0 60) 28 0 161 0 60) 29 0 162 0 60) 30 0 163 0 60) 31 0 164 0 60) lm)) := ze_ret (ok := true) rfl 45 rfl rfl
def m_13_159_26  (im : zI) (lm : zJ) : zR :=
    some (0, (zeCpy (zeCpy (zeCpy (zeCpy (zeCpy (zeU2 im 159 0 (im 26 0)) 27 0 160 0 60) 28 0 161 0 60) 29 0 162 0 60) 30 0 163 0 60) 31 0 164 0 60), lm)
theorem m_13_159_26_ok {B : zeB}  (im : zI) (lm : zJ) : zL B 0 (m_13_159_26  im lm) (zeRun 13 0 [some (.ref 159), some (.ref 26)] [] (zk B im lm)) := by
  unfold m_13_159_26
  exact zL_retv d_13_159_26_0
/-! X2_copyFrom_26_53 -/
theorem d_13_26_53_0 {B : zeB} {im : Nat → Nat → Int32} {lm : Nat → Nat → Int64}   : zeRun 13 0 [some (.ref 26), some (.ref 53)] [] (zk B im lm) = some (none, (zk B (zeCpy (zeCpy (zeCpy (zeCpy (zeCpy (zeU2 im 26 0 (im 53 0)) 54 0 27 0 60) 55 0 28 0 60) 56 0 29 0 60) 57 0 30 0 60) 58 0 31 0 60) lm)) := ze_ret (ok := true) rfl 45 rfl rfl
def m_13_26_53  (im : zI) (lm : zJ) : zR :=
    some (0, (zeCpy (zeCpy (zeCpy (zeCpy (zeCpy (zeU2 im 26 0 (im 53 0)) 54 0 27 0 60) 55 0 28 0 60) 56 0 29 0 60) 57 0 30 0 60) 58 0 31 0 60), lm)
theorem m_13_26_53_ok {B : zeB}  (im : zI) (lm : zJ) : zL B 0 (m_13_26_53  im lm) (zeRun 13 0 [some (.ref 26), some (.ref 53)] [] (zk B im lm)) := by
  unfold m_13_26_53
  exact zL_retv d_13_26_53_0
/-! X2_copyFrom_26_68 -/
theorem d_13_26_68_0 {B : zeB} {im : Nat → Nat → Int32} {lm : Nat → Nat → Int64}   : zeRun 13 0 [some (.ref 26), some (.ref 68)] [] (zk B im lm) = some (none, (zk B (zeCpy (zeCpy (zeCpy (zeCpy (zeCpy (zeU2 im 26 0 (im 68 0)) 69 0 27 0 60) 70 0 28 0 60) 71 0 29 0 60) 72 0 30 0 60) 73 0 31 0 60) lm)) := ze_ret (ok := true) rfl 45 rfl rfl
def m_13_26_68  (im : zI) (lm : zJ) : zR :=
    some (0, (zeCpy (zeCpy (zeCpy (zeCpy (zeCpy (zeU2 im 26 0 (im 68 0)) 69 0 27 0 60) 70 0 28 0 60) 71 0 29 0 60) 72 0 30 0 60) 73 0 31 0 60), lm)
theorem m_13_26_68_ok {B : zeB}  (im : zI) (lm : zJ) : zL B 0 (m_13_26_68  im lm) (zeRun 13 0 [some (.ref 26), some (.ref 68)] [] (zk B im lm)) := by
  unfold m_13_26_68
  exact zL_retv d_13_26_68_0
/-! X2_copyFrom_26_83 -/
theorem d_13_26_83_0 {B : zeB} {im : Nat → Nat → Int32} {lm : Nat → Nat → Int64}   : zeRun 13 0 [some (.ref 26), some (.ref 83)] [] (zk B im lm) = some (none, (zk B (zeCpy (zeCpy (zeCpy (zeCpy (zeCpy (zeU2 im 26 0 (im 83 0)) 84 0 27 0 60) 85 0 28 0 60) 86 0 29 0 60) 87 0 30 0 60) 88 0 31 0 60) lm)) := ze_ret (ok := true) rfl 45 rfl rfl
def m_13_26_83  (im : zI) (lm : zJ) : zR :=
    some (0, (zeCpy (zeCpy (zeCpy (zeCpy (zeCpy (zeU2 im 26 0 (im 83 0)) 84 0 27 0 60) 85 0 28 0 60) 86 0 29 0 60) 87 0 30 0 60) 88 0 31 0 60), lm)
theorem m_13_26_83_ok {B : zeB}  (im : zI) (lm : zJ) : zL B 0 (m_13_26_83  im lm) (zeRun 13 0 [some (.ref 26), some (.ref 83)] [] (zk B im lm)) := by
  unfold m_13_26_83
  exact zL_retv d_13_26_83_0
/-! X2_copyFrom_26_98 -/
theorem d_13_26_98_0 {B : zeB} {im : Nat → Nat → Int32} {lm : Nat → Nat → Int64}   : zeRun 13 0 [some (.ref 26), some (.ref 98)] [] (zk B im lm) = some (none, (zk B (zeCpy (zeCpy (zeCpy (zeCpy (zeCpy (zeU2 im 26 0 (im 98 0)) 99 0 27 0 60) 100 0 28 0 60) 101 0 29 0 60) 102 0 30 0 60) 103 0 31 0 60) lm)) := ze_ret (ok := true) rfl 45 rfl rfl
def m_13_26_98  (im : zI) (lm : zJ) : zR :=
    some (0, (zeCpy (zeCpy (zeCpy (zeCpy (zeCpy (zeU2 im 26 0 (im 98 0)) 99 0 27 0 60) 100 0 28 0 60) 101 0 29 0 60) 102 0 30 0 60) 103 0 31 0 60), lm)
theorem m_13_26_98_ok {B : zeB}  (im : zI) (lm : zJ) : zL B 0 (m_13_26_98  im lm) (zeRun 13 0 [some (.ref 26), some (.ref 98)] [] (zk B im lm)) := by
  unfold m_13_26_98
  exact zL_retv d_13_26_98_0
/-! X2_copyFrom_26_113 -/
theorem d_13_26_113_0 {B : zeB} {im : Nat → Nat → Int32} {lm : Nat → Nat → Int64}   : zeRun 13 0 [some (.ref 26), some (.ref 113)] [] (zk B im lm) = some (none, (zk B (zeCpy (zeCpy (zeCpy (zeCpy (zeCpy (zeU2 im 26 0 (im 113 0)) 114 0 27 0 60) 115 0 28 0 60) 116 0 29 0 60) 117 0 30 0 60) 118 0 31 0 60) lm)) := ze_ret (ok := true) rfl 45 rfl rfl
def m_13_26_113  (im : zI) (lm : zJ) : zR :=
    some (0, (zeCpy (zeCpy (zeCpy (zeCpy (zeCpy (zeU2 im 26 0 (im 113 0)) 114 0 27 0 60) 115 0 28 0 60) 116 0 29 0 60) 117 0 30 0 60) 118 0 31 0 60), lm)
theorem m_13_26_113_ok {B : zeB}  (im : zI) (lm : zJ) : zL B 0 (m_13_26_113  im lm) (zeRun 13 0 [some (.ref 26), some (.ref 113)] [] (zk B im lm)) := by
  unfold m_13_26_113
  exact zL_retv d_13_26_113_0
/-! X2_copyFrom_26_128 -/
theorem d_13_26_128_0 {B : zeB} {im : Nat → Nat → Int32} {lm : Nat → Nat → Int64}   : zeRun 13 0 [some (.ref 26), some (.ref 128)] [] (zk B im lm) = some (none, (zk B (zeCpy (zeCpy (zeCpy (zeCpy (zeCpy (zeU2 im 26 0 (im 128 0)) 129 0 27 0 60) 130 0 28 0 60) 131 0 29 0 60) 132 0 30 0 60) 133 0 31 0 60) lm)) := ze_ret (ok := true) rfl 45 rfl rfl
def m_13_26_128  (im : zI) (lm : zJ) : zR :=
    some (0, (zeCpy (zeCpy (zeCpy (zeCpy (zeCpy (zeU2 im 26 0 (im 128 0)) 129 0 27 0 60) 130 0 28 0 60) 131 0 29 0 60) 132 0 30 0 60) 133 0 31 0 60), lm)
theorem m_13_26_128_ok {B : zeB}  (im : zI) (lm : zJ) : zL B 0 (m_13_26_128  im lm) (zeRun 13 0 [some (.ref 26), some (.ref 128)] [] (zk B im lm)) := by
  unfold m_13_26_128
  exact zL_retv d_13_26_128_0
/-! X2_copyFrom_26_144 -/
theorem d_13_26_144_0 {B : zeB} {im : Nat → Nat → Int32} {lm : Nat → Nat → Int64}   : zeRun 13 0 [some (.ref 26), some (.ref 144)] [] (zk B im lm) = some (none, (zk B (zeCpy (zeCpy (zeCpy (zeCpy (zeCpy (zeU2 im 26 0 (im 144 0)) 145 0 27 0 60) 146 0 28 0 60) 147 0 29 0 60) 148 0 30 0 60) 149 0 31 0 60) lm)) := ze_ret (ok := true) rfl 45 rfl rfl
def m_13_26_144  (im : zI) (lm : zJ) : zR :=
    some (0, (zeCpy (zeCpy (zeCpy (zeCpy (zeCpy (zeU2 im 26 0 (im 144 0)) 145 0 27 0 60) 146 0 28 0 60) 147 0 29 0 60) 148 0 30 0 60) 149 0 31 0 60), lm)
theorem m_13_26_144_ok {B : zeB}  (im : zI) (lm : zJ) : zL B 0 (m_13_26_144  im lm) (zeRun 13 0 [some (.ref 26), some (.ref 144)] [] (zk B im lm)) := by
  unfold m_13_26_144
  exact zL_retv d_13_26_144_0
/-! X2_copyFrom_26_159 -/
theorem d_13_26_159_0 {B : zeB} {im : Nat → Nat → Int32} {lm : Nat → Nat → Int64}   : zeRun 13 0 [some (.ref 26), some (.ref 159)] [] (zk B im lm) = some (none, (zk B (zeCpy (zeCpy (zeCpy (zeCpy (zeCpy (zeU2 im 26 0 (im 159 0)) 160 0 27 0 60) 161 0 28 0 60) 162 0 29 0 60) 163 0 30 0 60) 164 0 31 0 60) lm)) := ze_ret (ok := true) rfl 45 rfl rfl
def m_13_26_159  (im : zI) (lm : zJ) : zR :=
    some (0, (zeCpy (zeCpy (zeCpy (zeCpy (zeCpy (zeU2 im 26 0 (im 159 0)) 160 0 27 0 60) 161 0 28 0 60) 162 0 29 0 60) 163 0 30 0 60) 164 0 31 0 60), lm)
theorem m_13_26_159_ok {B : zeB}  (im : zI) (lm : zJ) : zL B 0 (m_13_26_159  im lm) (zeRun 13 0 [some (.ref 26), some (.ref 159)] [] (zk B im lm)) := by
  unfold m_13_26_159
  exact zL_retv d_13_26_159_0
/-! X6_copyFrom_44_17 -/
theorem d_14_44_17_0 {B : zeB} {im : Nat → Nat → Int32} {lm : Nat → Nat → Int64}   : zeRun 14 0 [some (.ref 44), some (.ref 17)] [] (zk B im lm) = zeBh 14 60 [some (.ref 44), some (.ref 17)] [] (zeRun 11 0 [some (.ref 46), some (.ref 19)] [] (zk B (zeCpy (zeU2 (zeU2 (zeU2 (zeU2 im 44 0 (im 17 0)) 44 1 (im 17 1)) 44 2 (im 17 2)) 44 3 (im 17 3)) 18 0 45 0 3) lm)) := ze_call (ok := true) rfl 30 rfl rfl rfl
theorem d_14_44_17_60 {B : zeB} {im : Nat → Nat → Int32} {lm : Nat → Nat → Int64}   : zeRun 14 60 [some (.ref 44), some (.ref 17)] [] (zk B im lm) = zeBh 14 71 [some (.ref 44), some (.ref 17)] [] (zeRun 12 0 [some (.ref 50), some (.ref 23)] [] (zk B im lm)) := ze_call (ok := true) rfl 5 rfl rfl rfl
theorem d_14_44_17_71 {B : zeB} {im : Nat → Nat → Int32} {lm : Nat → Nat → Int64}   : zeRun 14 71 [some (.ref 44), some (.ref 17)] [] (zk B im lm) = zeBh 14 82 [some (.ref 44), some (.ref 17)] [] (zeRun 13 0 [some (.ref 53), some (.ref 26)] [] (zk B im lm)) := ze_call (ok := true) rfl 5 rfl rfl rfl
theorem d_14_44_17_82 {B : zeB} {im : Nat → Nat → Int32} {lm : Nat → Nat → Int64} (o0 : Option Value) (o1 : Option Value)  : zeRun 14 82 [o0, o1] [] (zk B im lm) = some (none, (zk B im lm)) := ze_ret (ok := true) rfl 1 rfl rfl
def m_14_44_17  (im : zI) (lm : zJ) : zR :=
    zBd (m_11_46_19  (zeCpy (zeU2 (zeU2 (zeU2 (zeU2 im 44 0 (im 17 0)) 44 1 (im 17 1)) 44 2 (im 17 2)) 44 3 (im 17 3)) 18 0 45 0 3) lm) fun _ im1 lm1 =>
    zBd (m_12_50_23  im1 lm1) fun _ im2 lm2 =>
    zBd (m_13_53_26  im2 lm2) fun _ im3 lm3 =>
    some (0, im3, lm3)
theorem m_14_44_17_ok {B : zeB}  (im : zI) (lm : zJ) : zL B 0 (m_14_44_17  im lm) (zeRun 14 0 [some (.ref 44), some (.ref 17)] [] (zk B im lm)) := by
  unfold m_14_44_17
  refine zL_bdv d_14_44_17_0 (m_11_46_19_ok _ _) fun _ im1 lm1 => ?_
  refine zL_bdv d_14_44_17_60 (m_12_50_23_ok _ _) fun _ im2 lm2 => ?_
  refine zL_bdv d_14_44_17_71 (m_13_53_26_ok _ _) fun _ im3 lm3 => ?_
  exact zL_retv (d_14_44_17_82 _ _)
/-! X6_copyFrom_59_17 -/
theorem d_14_59_17_0 {B : zeB} {im : Nat → Nat → Int32} {lm : Nat → Nat → Int64}   : zeRun 14 0 [some (.ref 59), some (.ref 17)] [] (zk B im lm) = zeBh 14 60 [some (.ref 59), some (.ref 17)] [] (zeRun 11 0 [some (.ref 61), some (.ref 19)] [] (zk B (zeCpy (zeU2 (zeU2 (zeU2 (zeU2 im 59 0 (im 17 0)) 59 1 (im 17 1)) 59 2 (im 17 2)) 59 3 (im 17 3)) 18 0 60 0 3) lm)) := ze_call (ok := true) rfl 30 rfl rfl rfl
theorem d_14_59_17_60 {B : zeB} {im : Nat → Nat → Int32} {lm : Nat → Nat → Int64}   : zeRun 14 60 [some (.ref 59), some (.ref 17)] [] (zk B im lm) = zeBh 14 71 [some (.ref 59), some (.ref 17)] [] (zeRun 12 0 [some (.ref 65), some (.ref 23)] [] (zk B im lm)) := ze_call (ok := true) rfl 5 rfl rfl rfl
theorem d_14_59_17_71 {B : zeB} {im : Nat → Nat → Int32} {lm : Nat → Nat → Int64}   : zeRun 14 71 [some (.ref 59), some (.ref 17)] [] (zk B im lm) = zeBh 14 82 [some (.ref 59), some (.ref 17)] [] (zeRun 13 0 [some (.ref 68), some (.ref 26)] [] (zk B im lm)) := ze_call (ok := true) rfl 5 rfl rfl rfl
theorem d_14_59_17_82 {B : zeB} {im : Nat → Nat → Int32} {lm : Nat → Nat → Int64} (o0 : Option Value) (o1 : Option Value)  : zeRun 14 82 [o0, o1] [] (zk B im lm) = some (none, (zk B im lm)) := ze_ret (ok := true) rfl 1 rfl rfl
def m_14_59_17  (im : zI) (lm : zJ) : zR :=
    zBd (m_11_61_19  (zeCpy (zeU2 (zeU2 (zeU2 (zeU2 im 59 0 (im 17 0)) 59 1 (im 17 1)) 59 2 (im 17 2)) 59 3 (im 17 3)) 18 0 60 0 3) lm) fun _ im1 lm1 =>
    zBd (m_12_65_23  im1 lm1) fun _ im2 lm2 =>
    zBd (m_13_68_26  im2 lm2) fun _ im3 lm3 =>
    some (0, im3, lm3)
theorem m_14_59_17_ok {B : zeB}  (im : zI) (lm : zJ) : zL B 0 (m_14_59_17  im lm) (zeRun 14 0 [some (.ref 59), some (.ref 17)] [] (zk B im lm)) := by
  unfold m_14_59_17
  refine zL_bdv d_14_59_17_0 (m_11_61_19_ok _ _) fun _ im1 lm1 => ?_
  refine zL_bdv d_14_59_17_60 (m_12_65_23_ok _ _) fun _ im2 lm2 => ?_
  refine zL_bdv d_14_59_17_71 (m_13_68_26_ok _ _) fun _ im3 lm3 => ?_
  exact zL_retv (d_14_59_17_82 _ _)
/-! X6_copyFrom_74_17 -/
theorem d_14_74_17_0 {B : zeB} {im : Nat → Nat → Int32} {lm : Nat → Nat → Int64}   : zeRun 14 0 [some (.ref 74), some (.ref 17)] [] (zk B im lm) = zeBh 14 60 [some (.ref 74), some (.ref 17)] [] (zeRun 11 0 [some (.ref 76), some (.ref 19)] [] (zk B (zeCpy (zeU2 (zeU2 (zeU2 (zeU2 im 74 0 (im 17 0)) 74 1 (im 17 1)) 74 2 (im 17 2)) 74 3 (im 17 3)) 18 0 75 0 3) lm)) := ze_call (ok := true) rfl 30 rfl rfl rfl
theorem d_14_74_17_60 {B : zeB} {im : Nat → Nat → Int32} {lm : Nat → Nat → Int64}   : zeRun 14 60 [some (.ref 74), some (.ref 17)] [] (zk B im lm) = zeBh 14 71 [some (.ref 74), some (.ref 17)] [] (zeRun 12 0 [some (.ref 80), some (.ref 23)] [] (zk B im lm)) := ze_call (ok := true) rfl 5 rfl rfl rfl
theorem d_14_74_17_71 {B : zeB} {im : Nat → Nat → Int32} {lm : Nat → Nat → Int64}   : zeRun 14 71 [some (.ref 74), some (.ref 17)] [] (zk B im lm) = zeBh 14 82 [some (.ref 74), some (.ref 17)] [] (zeRun 13 0 [some (.ref 83), some (.ref 26)] [] (zk B im lm)) := ze_call (ok := true) rfl 5 rfl rfl rfl
theorem d_14_74_17_82 {B : zeB} {im : Nat → Nat → Int32} {lm : Nat → Nat → Int64} (o0 : Option Value) (o1 : Option Value)  : zeRun 14 82 [o0, o1] [] (zk B im lm) = some (none, (zk B im lm)) := ze_ret (ok := true) rfl 1 rfl rfl
def m_14_74_17  (im : zI) (lm : zJ) : zR :=
    zBd (m_11_76_19  (zeCpy (zeU2 (zeU2 (zeU2 (zeU2 im 74 0 (im 17 0)) 74 1 (im 17 1)) 74 2 (im 17 2)) 74 3 (im 17 3)) 18 0 75 0 3) lm) fun _ im1 lm1 =>
    zBd (m_12_80_23  im1 lm1) fun _ im2 lm2 =>
    zBd (m_13_83_26  im2 lm2) fun _ im3 lm3 =>
    some (0, im3, lm3)
theorem m_14_74_17_ok {B : zeB}  (im : zI) (lm : zJ) : zL B 0 (m_14_74_17  im lm) (zeRun 14 0 [some (.ref 74), some (.ref 17)] [] (zk B im lm)) := by
  unfold m_14_74_17
  refine zL_bdv d_14_74_17_0 (m_11_76_19_ok _ _) fun _ im1 lm1 => ?_
  refine zL_bdv d_14_74_17_60 (m_12_80_23_ok _ _) fun _ im2 lm2 => ?_
  refine zL_bdv d_14_74_17_71 (m_13_83_26_ok _ _) fun _ im3 lm3 => ?_
  exact zL_retv (d_14_74_17_82 _ _)
/-! X6_copyFrom_89_17 -/
theorem d_14_89_17_0 {B : zeB} {im : Nat → Nat → Int32} {lm : Nat → Nat → Int64}   : zeRun 14 0 [some (.ref 89), some (.ref 17)] [] (zk B im lm) = zeBh 14 60 [some (.ref 89), some (.ref 17)] [] (zeRun 11 0 [some (.ref 91), some (.ref 19)] [] (zk B (zeCpy (zeU2 (zeU2 (zeU2 (zeU2 im 89 0 (im 17 0)) 89 1 (im 17 1)) 89 2 (im 17 2)) 89 3 (im 17 3)) 18 0 90 0 3) lm)) := ze_call (ok := true) rfl 30 rfl rfl rfl
theorem d_14_89_17_60 {B : zeB} {im : Nat → Nat → Int32} {lm : Nat → Nat → Int64}   : zeRun 14 60 [some (.ref 89), some (.ref 17)] [] (zk B im lm) = zeBh 14 71 [some (.ref 89), some (.ref 17)] [] (zeRun 12 0 [some (.ref 95), some (.ref 23)] [] (zk B im lm)) := ze_call (ok := true) rfl 5 rfl rfl rfl
theorem d_14_89_17_71 {B : zeB} {im : Nat → Nat → Int32} {lm : Nat → Nat → Int64}   : zeRun 14 71 [some (.ref 89), some (.ref 17)] [] (zk B im lm) = zeBh 14 82 [some (.ref 89), some (.ref 17)] [] (zeRun 13 0 [some (.ref 98), some (.ref 26)] [] (zk B im lm)) := ze_call (ok := true) rfl 5 rfl rfl rfl
theorem d_14_89_17_82 {B : zeB} {im : Nat → Nat → Int32} {lm : Nat → Nat → Int64} (o0 : Option Value) (o1 : Option Value)  : zeRun 14 82 [o0, o1] [] (zk B im lm) = some (none, (zk B im lm)) := ze_ret (ok := true) rfl 1 rfl rfl
def m_14_89_17  (im : zI) (lm : zJ) : zR :=
    zBd (m_11_91_19  (zeCpy (zeU2 (zeU2 (zeU2 (zeU2 im 89 0 (im 17 0)) 89 1 (im 17 1)) 89 2 (im 17 2)) 89 3 (im 17 3)) 18 0 90 0 3) lm) fun _ im1 lm1 =>
    zBd (m_12_95_23  im1 lm1) fun _ im2 lm2 =>
    zBd (m_13_98_26  im2 lm2) fun _ im3 lm3 =>
    some (0, im3, lm3)
theorem m_14_89_17_ok {B : zeB}  (im : zI) (lm : zJ) : zL B 0 (m_14_89_17  im lm) (zeRun 14 0 [some (.ref 89), some (.ref 17)] [] (zk B im lm)) := by
  unfold m_14_89_17
  refine zL_bdv d_14_89_17_0 (m_11_91_19_ok _ _) fun _ im1 lm1 => ?_
  refine zL_bdv d_14_89_17_60 (m_12_95_23_ok _ _) fun _ im2 lm2 => ?_
  refine zL_bdv d_14_89_17_71 (m_13_98_26_ok _ _) fun _ im3 lm3 => ?_
  exact zL_retv (d_14_89_17_82 _ _)
/-! X6_copyFrom_104_17 -/
theorem d_14_104_17_0 {B : zeB} {im : Nat → Nat → Int32} {lm : Nat → Nat → Int64}   : zeRun 14 0 [some (.ref 104), some (.ref 17)] [] (zk B im lm) = zeBh 14 60 [some (.ref 104), some (.ref 17)] [] (zeRun 11 0 [some (.ref 106), some (.ref 19)] [] (zk B (zeCpy (zeU2 (zeU2 (zeU2 (zeU2 im 104 0 (im 17 0)) 104 1 (im 17 1)) 104 2 (im 17 2)) 104 3 (im 17 3)) 18 0 105 0 3) lm)) := ze_call (ok := true) rfl 30 rfl rfl rfl
theorem d_14_104_17_60 {B : zeB} {im : Nat → Nat → Int32} {lm : Nat → Nat → Int64}   : zeRun 14 60 [some (.ref 104), some (.ref 17)] [] (zk B im lm) = zeBh 14 71 [some (.ref 104), some (.ref 17)] [] (zeRun 12 0 [some (.ref 110), some (.ref 23)] [] (zk B im lm)) := ze_call (ok := true) rfl 5 rfl rfl rfl
theorem d_14_104_17_71 {B : zeB} {im : Nat → Nat → Int32} {lm : Nat → Nat → Int64}   : zeRun 14 71 [some (.ref 104), some (.ref 17)] [] (zk B im lm) = zeBh 14 82 [some (.ref 104), some (.ref 17)] [] (zeRun 13 0 [some (.ref 113), some (.ref 26)] [] (zk B im lm)) := ze_call (ok := true) rfl 5 rfl rfl rfl
theorem d_14_104_17_82 {B : zeB} {im : Nat → Nat → Int32} {lm : Nat → Nat → Int64} (o0 : Option Value) (o1 : Option Value)  : zeRun 14 82 [o0, o1] [] (zk B im lm) = some (none, (zk B im lm)) := ze_ret (ok := true) rfl 1 rfl rfl
def m_14_104_17  (im : zI) (lm : zJ) : zR :=
    zBd (m_11_106_19  (zeCpy (zeU2 (zeU2 (zeU2 (zeU2 im 104 0 (im 17 0)) 104 1 (im 17 1)) 104 2 (im 17 2)) 104 3 (im 17 3)) 18 0 105 0 3) lm) fun _ im1 lm1 =>
    zBd (m_12_110_23  im1 lm1) fun _ im2 lm2 =>
    zBd (m_13_113_26  im2 lm2) fun _ im3 lm3 =>
    some (0, im3, lm3)
theorem m_14_104_17_ok {B : zeB}  (im : zI) (lm : zJ) : zL B 0 (m_14_104_17  im lm) (zeRun 14 0 [some (.ref 104), some (.ref 17)] [] (zk B im lm)) := by
  unfold m_14_104_17
  refine zL_bdv d_14_104_17_0 (m_11_106_19_ok _ _) fun _ im1 lm1 => ?_
  refine zL_bdv d_14_104_17_60 (m_12_110_23_ok _ _) fun _ im2 lm2 => ?_
  refine zL_bdv d_14_104_17_71 (m_13_113_26_ok _ _) fun _ im3 lm3 => ?_
  exact zL_retv (d_14_104_17_82 _ _)
/-! X6_copyFrom_119_17 -/
theorem d_14_119_17_0 {B : zeB} {im : Nat → Nat → Int32} {lm : Nat → Nat → Int64}   : zeRun 14 0 [some (.ref 119), some (.ref 17)] [] (zk B im lm) = zeBh 14 60 [some (.ref 119), some (.ref 17)] [] (zeRun 11 0 [some (.ref 121), some (.ref 19)] [] (zk B (zeCpy (zeU2 (zeU2 (zeU2 (zeU2 im 119 0 (im 17 0)) 119 1 (im 17 1)) 119 2 (im 17 2)) 119 3 (im 17 3)) 18 0 120 0 3) lm)) := ze_call (ok := true) rfl 30 rfl rfl rfl
theorem d_14_119_17_60 {B : zeB} {im : Nat → Nat → Int32} {lm : Nat → Nat → Int64}   : zeRun 14 60 [some (.ref 119), some (.ref 17)] [] (zk B im lm) = zeBh 14 71 [some (.ref 119), some (.ref 17)] [] (zeRun 12 0 [some (.ref 125), some (.ref 23)] [] (zk B im lm)) := ze_call (ok := true) rfl 5 rfl rfl rfl
theorem d_14_119_17_71 {B : zeB} {im : Nat → Nat → Int32} {lm : Nat → Nat → Int64}   : zeRun 14 71 [some (.ref 119), some (.ref 17)] [] (zk B im lm) = zeBh 14 82 [some (.ref 119), some (.ref 17)] [] (zeRun 13 0 [some (.ref 128), some (.ref 26)] [] (zk B im lm)) := ze_call (ok := true) rfl 5 rfl rfl rfl
theorem d_14_119_17_82 {B : zeB} {im : Nat → Nat → Int32} {lm : Nat → Nat → Int64} (o0 : Option Value) (o1 : Option Value)  : zeRun 14 82 [o0, o1] [] (zk B im lm) = some (none, (zk B im lm)) := ze_ret (ok := true) rfl 1 rfl rfl
def m_14_119_17  (im : zI) (lm : zJ) : zR :=
    zBd (m_11_121_19  (zeCpy (zeU2 (zeU2 (zeU2 (zeU2 im 119 0 (im 17 0)) 119 1 (im 17 1)) 119 2 (im 17 2)) 119 3 (im 17 3)) 18 0 120 0 3) lm) fun _ im1 lm1 =>
    zBd (m_12_125_23  im1 lm1) fun _ im2 lm2 =>
    zBd (m_13_128_26  im2 lm2) fun _ im3 lm3 =>
    some (0, im3, lm3)
theorem m_14_119_17_ok {B : zeB}  (im : zI) (lm : zJ) : zL B 0 (m_14_119_17  im lm) (zeRun 14 0 [some (.ref 119), some (.ref 17)] [] (zk B im lm)) := by
  unfold m_14_119_17
  refine zL_bdv d_14_119_17_0 (m_11_121_19_ok _ _) fun _ im1 lm1 => ?_
  refine zL_bdv d_14_119_17_60 (m_12_125_23_ok _ _) fun _ im2 lm2 => ?_
  refine zL_bdv d_14_119_17_71 (m_13_128_26_ok _ _) fun _ im3 lm3 => ?_
  exact zL_retv (d_14_119_17_82 _ _)
/-! X6_copyFrom_135_17 -/
theorem d_14_135_17_0 {B : zeB} {im : Nat → Nat → Int32} {lm : Nat → Nat → Int64}   : zeRun 14 0 [some (.ref 135), some (.ref 17)] [] (zk B im lm) = zeBh 14 60 [some (.ref 135), some (.ref 17)] [] (zeRun 11 0 [some (.ref 137), some (.ref 19)] [] (zk B (zeCpy (zeU2 (zeU2 (zeU2 (zeU2 im 135 0 (im 17 0)) 135 1 (im 17 1)) 135 2 (im 17 2)) 135 3 (im 17 3)) 18 0 136 0 3) lm)) := ze_call (ok := true) rfl 30 rfl rfl rfl
theorem d_14_135_17_60 {B : zeB} {im : Nat → Nat → Int32} {lm : Nat → Nat → Int64}   : zeRun 14 60 [some (.ref 135), some (.ref 17)] [] (zk B im lm) = zeBh 14 71 [some (.ref 135), some (.ref 17)] [] (zeRun 12 0 [some (.ref 141), some (.ref 23)] [] (zk B im lm)) := ze_call (ok := true) rfl 5 rfl rfl rfl
theorem d_14_135_17_71 {B : zeB} {im : Nat → Nat → Int32} {lm : Nat → Nat → Int64}   : zeRun 14 71 [some (.ref 135), some (.ref 17)] [] (zk B im lm) = zeBh 14 82 [some (.ref 135), some (.ref 17)] [] (zeRun 13 0 [some (.ref 144), some (.ref 26)] [] (zk B im lm)) := ze_call (ok := true) rfl 5 rfl rfl rfl
theorem d_14_135_17_82 {B : zeB} {im : Nat → Nat → Int32} {lm : Nat → Nat → Int64} (o0 : Option Value) (o1 : Option Value)  : zeRun 14 82 [o0, o1] [] (zk B im lm) = some (none, (zk B im lm)) := ze_ret (ok := true) rfl 1 rfl rfl
def m_14_135_17  (im : zI) (lm : zJ) : zR :=
    zBd (m_11_137_19  (zeCpy (zeU2 (zeU2 (zeU2 (zeU2 im 135 0 (im 17 0)) 135 1 (im 17 1)) 135 2 (im 17 2)) 135 3 (im 17 3)) 18 0 136 0 3) lm) fun _ im1 lm1 =>
    zBd (m_12_141_23  im1 lm1) fun _ im2 lm2 =>
    zBd (m_13_144_26  im2 lm2) fun _ im3 lm3 =>
    some (0, im3, lm3)
theorem m_14_135_17_ok {B : zeB}  (im : zI) (lm : zJ) : zL B 0 (m_14_135_17  im lm) (zeRun 14 0 [some (.ref 135), some (.ref 17)] [] (zk B im lm)) := by
  unfold m_14_135_17
  refine zL_bdv d_14_135_17_0 (m_11_137_19_ok _ _) fun _ im1 lm1 => ?_
  refine zL_bdv d_14_135_17_60 (m_12_141_23_ok _ _) fun _ im2 lm2 => ?_
  refine zL_bdv d_14_135_17_71 (m_13_144_26_ok _ _) fun _ im3 lm3 => ?_
  exact zL_retv (d_14_135_17_82 _ _)
/-! X6_copyFrom_150_17 -/
theorem d_14_150_17_0 {B : zeB} {im : Nat → Nat → Int32} {lm : Nat → Nat → Int64}   : zeRun 14 0 [some (.ref 150), some (.ref 17)] [] (zk B im lm) = zeBh 14 60 [some (.ref 150), some (.ref 17)] [] (zeRun 11 0 [some (.ref 152), some (.ref 19)] [] (zk B (zeCpy (zeU2 (zeU2 (zeU2 (zeU2 im 150 0 (im 17 0)) 150 1 (im 17 1)) 150 2 (im 17 2)) 150 3 (im 17 3)) 18 0 151 0 3) lm)) := ze_call (ok := true) rfl 30 rfl rfl rfl
theorem d_14_150_17_60 {B : zeB} {im : Nat → Nat → Int32} {lm : Nat → Nat → Int64}   : zeRun 14 60 [some (.ref 150), some (.ref 17)] [] (zk B im lm) = zeBh 14 71 [some (.ref 150), some (.ref 17)] [] (zeRun 12 0 [some (.ref 156), some (.ref 23)] [] (zk B im lm)) := ze_call (ok := true) rfl 5 rfl rfl rfl
theorem d_14_150_17_71 {B : zeB} {im : Nat → Nat → Int32} {lm : Nat → Nat → Int64}   : zeRun 14 71 [some (.ref 150), some (.ref 17)] [] (zk B im lm) = zeBh 14 82 [some (.ref 150), some (.ref 17)] [] (zeRun 13 0 [some (.ref 159), some (.ref 26)] [] (zk B im lm)) := ze_call (ok := true) rfl 5 rfl rfl rfl
theorem d_14_150_17_82 {B : zeB} {im : Nat → Nat → Int32} {lm : Nat → Nat → Int64} (o0 : Option Value) (o1 : Option Value)  : zeRun 14 82 [o0, o1] [] (zk B im lm) = some (none, (zk B im lm)) := ze_ret (ok := true) rfl 1 rfl rfl
def m_14_150_17  (im : zI) (lm : zJ) : zR :=
    zBd (m_11_152_19  (zeCpy (zeU2 (zeU2 (zeU2 (zeU2 im 150 0 (im 17 0)) 150 1 (im 17 1)) 150 2 (im 17 2)) 150 3 (im 17 3)) 18 0 151 0 3) lm) fun _ im1 lm1 =>
    zBd (m_12_156_23  im1 lm1) fun _ im2 lm2 =>
    zBd (m_13_159_26  im2 lm2) fun _ im3 lm3 =>
    some (0, im3, lm3)
theorem m_14_150_17_ok {B : zeB}  (im : zI) (lm : zJ) : zL B 0 (m_14_150_17  im lm) (zeRun 14 0 [some (.ref 150), some (.ref 17)] [] (zk B im lm)) := by
  unfold m_14_150_17
  refine zL_bdv d_14_150_17_0 (m_11_152_19_ok _ _) fun _ im1 lm1 => ?_
  refine zL_bdv d_14_150_17_60 (m_12_156_23_ok _ _) fun _ im2 lm2 => ?_
  refine zL_bdv d_14_150_17_71 (m_13_159_26_ok _ _) fun _ im3 lm3 => ?_
  exact zL_retv (d_14_150_17_82 _ _)
