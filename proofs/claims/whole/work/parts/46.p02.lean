/-! pure: X6_copyFrom_17_104, X6_copyFrom_17_119, X6_copyFrom_17_135, X6_copyFrom_17_150, X1_prepare, X7_isBeforeFirstPick, X7_refused, X7_doAddPlayer, X7_isError, X1_commit, X7_recorded, X7_addPlayer, X8_hasBegun, X8_refuse, X8_record, X8_addPlayer, X7_isClue, X7_bitOf, J6_bitCount_0f7a4, X7_doSetWagerClue, X7_setWagerClue, X8_in, X8_bits -/
/-! X6_copyFrom_17_104 -/
theorem d_14_17_104_0 {B : zeB} {im : Nat → Nat → Int32} {lm : Nat → Nat → Int64}   : zeRun 14 0 [some (.ref 17), some (.ref 104)] [] (zk B im lm) = zeBh 14 60 [some (.ref 17), some (.ref 104)] [] (zeRun 11 0 [some (.ref 19), some (.ref 106)] [] (zk B (zeCpy (zeU2 (zeU2 (zeU2 (zeU2 im 17 0 (im 104 0)) 17 1 (im 104 1)) 17 2 (im 104 2)) 17 3 (im 104 3)) 105 0 18 0 3) lm)) := ze_call (ok := true) rfl 30 rfl rfl rfl
theorem d_14_17_104_60 {B : zeB} {im : Nat → Nat → Int32} {lm : Nat → Nat → Int64}   : zeRun 14 60 [some (.ref 17), some (.ref 104)] [] (zk B im lm) = zeBh 14 71 [some (.ref 17), some (.ref 104)] [] (zeRun 12 0 [some (.ref 23), some (.ref 110)] [] (zk B im lm)) := ze_call (ok := true) rfl 5 rfl rfl rfl
theorem d_14_17_104_71 {B : zeB} {im : Nat → Nat → Int32} {lm : Nat → Nat → Int64}   : zeRun 14 71 [some (.ref 17), some (.ref 104)] [] (zk B im lm) = zeBh 14 82 [some (.ref 17), some (.ref 104)] [] (zeRun 13 0 [some (.ref 26), some (.ref 113)] [] (zk B im lm)) := ze_call (ok := true) rfl 5 rfl rfl rfl
theorem d_14_17_104_82 {B : zeB} {im : Nat → Nat → Int32} {lm : Nat → Nat → Int64} (o0 : Option Value) (o1 : Option Value)  : zeRun 14 82 [o0, o1] [] (zk B im lm) = some (none, (zk B im lm)) := ze_ret (ok := true) rfl 1 rfl rfl
def m_14_17_104  (im : zI) (lm : zJ) : zR :=
    zBd (m_11_19_106  (zeCpy (zeU2 (zeU2 (zeU2 (zeU2 im 17 0 (im 104 0)) 17 1 (im 104 1)) 17 2 (im 104 2)) 17 3 (im 104 3)) 105 0 18 0 3) lm) fun _ im1 lm1 =>
    zBd (m_12_23_110  im1 lm1) fun _ im2 lm2 =>
    zBd (m_13_26_113  im2 lm2) fun _ im3 lm3 =>
    some (0, im3, lm3)
theorem m_14_17_104_ok {B : zeB}  (im : zI) (lm : zJ) : zL B 0 (m_14_17_104  im lm) (zeRun 14 0 [some (.ref 17), some (.ref 104)] [] (zk B im lm)) := by
  unfold m_14_17_104
  refine zL_bdv d_14_17_104_0 (m_11_19_106_ok _ _) fun _ im1 lm1 => ?_
  refine zL_bdv d_14_17_104_60 (m_12_23_110_ok _ _) fun _ im2 lm2 => ?_
  refine zL_bdv d_14_17_104_71 (m_13_26_113_ok _ _) fun _ im3 lm3 => ?_
  exact zL_retv (d_14_17_104_82 _ _)
/-! X6_copyFrom_17_119 -/
theorem d_14_17_119_0 {B : zeB} {im : Nat → Nat → Int32} {lm : Nat → Nat → Int64}   : zeRun 14 0 [some (.ref 17), some (.ref 119)] [] (zk B im lm) = zeBh 14 60 [some (.ref 17), some (.ref 119)] [] (zeRun 11 0 [some (.ref 19), some (.ref 121)] [] (zk B (zeCpy (zeU2 (zeU2 (zeU2 (zeU2 im 17 0 (im 119 0)) 17 1 (im 119 1)) 17 2 (im 119 2)) 17 3 (im 119 3)) 120 0 18 0 3) lm)) := ze_call (ok := true) rfl 30 rfl rfl rfl
theorem d_14_17_119_60 {B : zeB} {im : Nat → Nat → Int32} {lm : Nat → Nat → Int64}   : zeRun 14 60 [some (.ref 17), some (.ref 119)] [] (zk B im lm) = zeBh 14 71 [some (.ref 17), some (.ref 119)] [] (zeRun 12 0 [some (.ref 23), some (.ref 125)] [] (zk B im lm)) := ze_call (ok := true) rfl 5 rfl rfl rfl
theorem d_14_17_119_71 {B : zeB} {im : Nat → Nat → Int32} {lm : Nat → Nat → Int64}   : zeRun 14 71 [some (.ref 17), some (.ref 119)] [] (zk B im lm) = zeBh 14 82 [some (.ref 17), some (.ref 119)] [] (zeRun 13 0 [some (.ref 26), some (.ref 128)] [] (zk B im lm)) := ze_call (ok := true) rfl 5 rfl rfl rfl
theorem d_14_17_119_82 {B : zeB} {im : Nat → Nat → Int32} {lm : Nat → Nat → Int64} (o0 : Option Value) (o1 : Option Value)  : zeRun 14 82 [o0, o1] [] (zk B im lm) = some (none, (zk B im lm)) := ze_ret (ok := true) rfl 1 rfl rfl
def m_14_17_119  (im : zI) (lm : zJ) : zR :=
    zBd (m_11_19_121  (zeCpy (zeU2 (zeU2 (zeU2 (zeU2 im 17 0 (im 119 0)) 17 1 (im 119 1)) 17 2 (im 119 2)) 17 3 (im 119 3)) 120 0 18 0 3) lm) fun _ im1 lm1 =>
    zBd (m_12_23_125  im1 lm1) fun _ im2 lm2 =>
    zBd (m_13_26_128  im2 lm2) fun _ im3 lm3 =>
    some (0, im3, lm3)
theorem m_14_17_119_ok {B : zeB}  (im : zI) (lm : zJ) : zL B 0 (m_14_17_119  im lm) (zeRun 14 0 [some (.ref 17), some (.ref 119)] [] (zk B im lm)) := by
  unfold m_14_17_119
  refine zL_bdv d_14_17_119_0 (m_11_19_121_ok _ _) fun _ im1 lm1 => ?_
  refine zL_bdv d_14_17_119_60 (m_12_23_125_ok _ _) fun _ im2 lm2 => ?_
  refine zL_bdv d_14_17_119_71 (m_13_26_128_ok _ _) fun _ im3 lm3 => ?_
  exact zL_retv (d_14_17_119_82 _ _)
/-! X6_copyFrom_17_135 -/
theorem d_14_17_135_0 {B : zeB} {im : Nat → Nat → Int32} {lm : Nat → Nat → Int64}   : zeRun 14 0 [some (.ref 17), some (.ref 135)] [] (zk B im lm) = zeBh 14 60 [some (.ref 17), some (.ref 135)] [] (zeRun 11 0 [some (.ref 19), some (.ref 137)] [] (zk B (zeCpy (zeU2 (zeU2 (zeU2 (zeU2 im 17 0 (im 135 0)) 17 1 (im 135 1)) 17 2 (im 135 2)) 17 3 (im 135 3)) 136 0 18 0 3) lm)) := ze_call (ok := true) rfl 30 rfl rfl rfl
theorem d_14_17_135_60 {B : zeB} {im : Nat → Nat → Int32} {lm : Nat → Nat → Int64}   : zeRun 14 60 [some (.ref 17), some (.ref 135)] [] (zk B im lm) = zeBh 14 71 [some (.ref 17), some (.ref 135)] [] (zeRun 12 0 [some (.ref 23), some (.ref 141)] [] (zk B im lm)) := ze_call (ok := true) rfl 5 rfl rfl rfl
theorem d_14_17_135_71 {B : zeB} {im : Nat → Nat → Int32} {lm : Nat → Nat → Int64}   : zeRun 14 71 [some (.ref 17), some (.ref 135)] [] (zk B im lm) = zeBh 14 82 [some (.ref 17), some (.ref 135)] [] (zeRun 13 0 [some (.ref 26), some (.ref 144)] [] (zk B im lm)) := ze_call (ok := true) rfl 5 rfl rfl rfl
theorem d_14_17_135_82 {B : zeB} {im : Nat → Nat → Int32} {lm : Nat → Nat → Int64} (o0 : Option Value) (o1 : Option Value)  : zeRun 14 82 [o0, o1] [] (zk B im lm) = some (none, (zk B im lm)) := ze_ret (ok := true) rfl 1 rfl rfl
def m_14_17_135  (im : zI) (lm : zJ) : zR :=
    zBd (m_11_19_137  (zeCpy (zeU2 (zeU2 (zeU2 (zeU2 im 17 0 (im 135 0)) 17 1 (im 135 1)) 17 2 (im 135 2)) 17 3 (im 135 3)) 136 0 18 0 3) lm) fun _ im1 lm1 =>
    zBd (m_12_23_141  im1 lm1) fun _ im2 lm2 =>
    zBd (m_13_26_144  im2 lm2) fun _ im3 lm3 =>
    some (0, im3, lm3)
theorem m_14_17_135_ok {B : zeB}  (im : zI) (lm : zJ) : zL B 0 (m_14_17_135  im lm) (zeRun 14 0 [some (.ref 17), some (.ref 135)] [] (zk B im lm)) := by
  unfold m_14_17_135
  refine zL_bdv d_14_17_135_0 (m_11_19_137_ok _ _) fun _ im1 lm1 => ?_
  refine zL_bdv d_14_17_135_60 (m_12_23_141_ok _ _) fun _ im2 lm2 => ?_
  refine zL_bdv d_14_17_135_71 (m_13_26_144_ok _ _) fun _ im3 lm3 => ?_
  exact zL_retv (d_14_17_135_82 _ _)
/-! X6_copyFrom_17_150 -/
theorem d_14_17_150_0 {B : zeB} {im : Nat → Nat → Int32} {lm : Nat → Nat → Int64}   : zeRun 14 0 [some (.ref 17), some (.ref 150)] [] (zk B im lm) = zeBh 14 60 [some (.ref 17), some (.ref 150)] [] (zeRun 11 0 [some (.ref 19), some (.ref 152)] [] (zk B (zeCpy (zeU2 (zeU2 (zeU2 (zeU2 im 17 0 (im 150 0)) 17 1 (im 150 1)) 17 2 (im 150 2)) 17 3 (im 150 3)) 151 0 18 0 3) lm)) := ze_call (ok := true) rfl 30 rfl rfl rfl
theorem d_14_17_150_60 {B : zeB} {im : Nat → Nat → Int32} {lm : Nat → Nat → Int64}   : zeRun 14 60 [some (.ref 17), some (.ref 150)] [] (zk B im lm) = zeBh 14 71 [some (.ref 17), some (.ref 150)] [] (zeRun 12 0 [some (.ref 23), some (.ref 156)] [] (zk B im lm)) := ze_call (ok := true) rfl 5 rfl rfl rfl
theorem d_14_17_150_71 {B : zeB} {im : Nat → Nat → Int32} {lm : Nat → Nat → Int64}   : zeRun 14 71 [some (.ref 17), some (.ref 150)] [] (zk B im lm) = zeBh 14 82 [some (.ref 17), some (.ref 150)] [] (zeRun 13 0 [some (.ref 26), some (.ref 159)] [] (zk B im lm)) := ze_call (ok := true) rfl 5 rfl rfl rfl
theorem d_14_17_150_82 {B : zeB} {im : Nat → Nat → Int32} {lm : Nat → Nat → Int64} (o0 : Option Value) (o1 : Option Value)  : zeRun 14 82 [o0, o1] [] (zk B im lm) = some (none, (zk B im lm)) := ze_ret (ok := true) rfl 1 rfl rfl
def m_14_17_150  (im : zI) (lm : zJ) : zR :=
    zBd (m_11_19_152  (zeCpy (zeU2 (zeU2 (zeU2 (zeU2 im 17 0 (im 150 0)) 17 1 (im 150 1)) 17 2 (im 150 2)) 17 3 (im 150 3)) 151 0 18 0 3) lm) fun _ im1 lm1 =>
    zBd (m_12_23_156  im1 lm1) fun _ im2 lm2 =>
    zBd (m_13_26_159  im2 lm2) fun _ im3 lm3 =>
    some (0, im3, lm3)
theorem m_14_17_150_ok {B : zeB}  (im : zI) (lm : zJ) : zL B 0 (m_14_17_150  im lm) (zeRun 14 0 [some (.ref 17), some (.ref 150)] [] (zk B im lm)) := by
  unfold m_14_17_150
  refine zL_bdv d_14_17_150_0 (m_11_19_152_ok _ _) fun _ im1 lm1 => ?_
  refine zL_bdv d_14_17_150_60 (m_12_23_156_ok _ _) fun _ im2 lm2 => ?_
  refine zL_bdv d_14_17_150_71 (m_13_26_159_ok _ _) fun _ im3 lm3 => ?_
  exact zL_retv (d_14_17_150_82 _ _)
/-! X1_prepare -/
theorem d_15_0 {B : zeB} {im : Nat → Nat → Int32} {lm : Nat → Nat → Int64}   : zeRun 15 0 [some (.ref 42), some (.ref 17)] [] (zk B im lm) = zeRun 15 8 [some (.ref 42), some (.ref 17)] [.int (im 42 1), .ref 43] (zk B im lm) := ze_go (ok := true) rfl 4 rfl rfl
theorem d_15_8_0 {B : zeB} {im : Nat → Nat → Int32} {lm : Nat → Nat → Int64} (o0 : Option Value) (s1 : Int32) (c0 : zeInb s1 6 = true) (hx : Int32.toNatClampNeg s1 = 0) : zeRun 15 8 [o0, some (.ref 17)] [.int s1, .ref 43] (zk B im lm) = zeRun 15 9 [o0, some (.ref 17)] [.ref 44] (zk B im lm) := by
  have hy := (ze_go (i := 15) rfl 1 rfl (zeA2 c0 rfl) : zeRun 15 8 [o0, some (.ref 17)] [.int s1, .ref 43] (zk B im lm) = _)
  exact hy.trans (by rw [hx]; rfl)
theorem d_15_8_1 {B : zeB} {im : Nat → Nat → Int32} {lm : Nat → Nat → Int64} (o0 : Option Value) (s1 : Int32) (c0 : zeInb s1 6 = true) (hx : Int32.toNatClampNeg s1 = 1) : zeRun 15 8 [o0, some (.ref 17)] [.int s1, .ref 43] (zk B im lm) = zeRun 15 9 [o0, some (.ref 17)] [.ref 59] (zk B im lm) := by
  have hy := (ze_go (i := 15) rfl 1 rfl (zeA2 c0 rfl) : zeRun 15 8 [o0, some (.ref 17)] [.int s1, .ref 43] (zk B im lm) = _)
  exact hy.trans (by rw [hx]; rfl)
theorem d_15_8_2 {B : zeB} {im : Nat → Nat → Int32} {lm : Nat → Nat → Int64} (o0 : Option Value) (s1 : Int32) (c0 : zeInb s1 6 = true) (hx : Int32.toNatClampNeg s1 = 2) : zeRun 15 8 [o0, some (.ref 17)] [.int s1, .ref 43] (zk B im lm) = zeRun 15 9 [o0, some (.ref 17)] [.ref 74] (zk B im lm) := by
  have hy := (ze_go (i := 15) rfl 1 rfl (zeA2 c0 rfl) : zeRun 15 8 [o0, some (.ref 17)] [.int s1, .ref 43] (zk B im lm) = _)
  exact hy.trans (by rw [hx]; rfl)
theorem d_15_8_3 {B : zeB} {im : Nat → Nat → Int32} {lm : Nat → Nat → Int64} (o0 : Option Value) (s1 : Int32) (c0 : zeInb s1 6 = true) (hx : Int32.toNatClampNeg s1 = 3) : zeRun 15 8 [o0, some (.ref 17)] [.int s1, .ref 43] (zk B im lm) = zeRun 15 9 [o0, some (.ref 17)] [.ref 89] (zk B im lm) := by
  have hy := (ze_go (i := 15) rfl 1 rfl (zeA2 c0 rfl) : zeRun 15 8 [o0, some (.ref 17)] [.int s1, .ref 43] (zk B im lm) = _)
  exact hy.trans (by rw [hx]; rfl)
theorem d_15_8_4 {B : zeB} {im : Nat → Nat → Int32} {lm : Nat → Nat → Int64} (o0 : Option Value) (s1 : Int32) (c0 : zeInb s1 6 = true) (hx : Int32.toNatClampNeg s1 = 4) : zeRun 15 8 [o0, some (.ref 17)] [.int s1, .ref 43] (zk B im lm) = zeRun 15 9 [o0, some (.ref 17)] [.ref 104] (zk B im lm) := by
  have hy := (ze_go (i := 15) rfl 1 rfl (zeA2 c0 rfl) : zeRun 15 8 [o0, some (.ref 17)] [.int s1, .ref 43] (zk B im lm) = _)
  exact hy.trans (by rw [hx]; rfl)
theorem d_15_8_5 {B : zeB} {im : Nat → Nat → Int32} {lm : Nat → Nat → Int64} (o0 : Option Value) (s1 : Int32) (c0 : zeInb s1 6 = true) (hx : Int32.toNatClampNeg s1 = 5) : zeRun 15 8 [o0, some (.ref 17)] [.int s1, .ref 43] (zk B im lm) = zeRun 15 9 [o0, some (.ref 17)] [.ref 119] (zk B im lm) := by
  have hy := (ze_go (i := 15) rfl 1 rfl (zeA2 c0 rfl) : zeRun 15 8 [o0, some (.ref 17)] [.int s1, .ref 43] (zk B im lm) = _)
  exact hy.trans (by rw [hx]; rfl)
theorem d_15_9 {B : zeB} {im : Nat → Nat → Int32} {lm : Nat → Nat → Int64} (o0 : Option Value)  : zeRun 15 9 [o0, some (.ref 17)] [.ref 44] (zk B im lm) = zeBh 15 13 [o0, some (.ref 17)] [] (zeRun 14 0 [some (.ref 44), some (.ref 17)] [] (zk B im lm)) := ze_call (ok := true) rfl 2 rfl rfl rfl
theorem d_15_13 {B : zeB} {im : Nat → Nat → Int32} {lm : Nat → Nat → Int64} (o0 : Option Value) (o1 : Option Value)  : zeRun 15 13 [o0, o1] [] (zk B im lm) = some (none, (zk B im lm)) := ze_ret (ok := true) rfl 1 rfl rfl
theorem d_15_9_2 {B : zeB} {im : Nat → Nat → Int32} {lm : Nat → Nat → Int64} (o0 : Option Value)  : zeRun 15 9 [o0, some (.ref 17)] [.ref 59] (zk B im lm) = zeBh 15 13 [o0, some (.ref 17)] [] (zeRun 14 0 [some (.ref 59), some (.ref 17)] [] (zk B im lm)) := ze_call (ok := true) rfl 2 rfl rfl rfl
theorem d_15_9_3 {B : zeB} {im : Nat → Nat → Int32} {lm : Nat → Nat → Int64} (o0 : Option Value)  : zeRun 15 9 [o0, some (.ref 17)] [.ref 74] (zk B im lm) = zeBh 15 13 [o0, some (.ref 17)] [] (zeRun 14 0 [some (.ref 74), some (.ref 17)] [] (zk B im lm)) := ze_call (ok := true) rfl 2 rfl rfl rfl
theorem d_15_9_4 {B : zeB} {im : Nat → Nat → Int32} {lm : Nat → Nat → Int64} (o0 : Option Value)  : zeRun 15 9 [o0, some (.ref 17)] [.ref 89] (zk B im lm) = zeBh 15 13 [o0, some (.ref 17)] [] (zeRun 14 0 [some (.ref 89), some (.ref 17)] [] (zk B im lm)) := ze_call (ok := true) rfl 2 rfl rfl rfl
theorem d_15_9_5 {B : zeB} {im : Nat → Nat → Int32} {lm : Nat → Nat → Int64} (o0 : Option Value)  : zeRun 15 9 [o0, some (.ref 17)] [.ref 104] (zk B im lm) = zeBh 15 13 [o0, some (.ref 17)] [] (zeRun 14 0 [some (.ref 104), some (.ref 17)] [] (zk B im lm)) := ze_call (ok := true) rfl 2 rfl rfl rfl
theorem d_15_9_6 {B : zeB} {im : Nat → Nat → Int32} {lm : Nat → Nat → Int64} (o0 : Option Value)  : zeRun 15 9 [o0, some (.ref 17)] [.ref 119] (zk B im lm) = zeBh 15 13 [o0, some (.ref 17)] [] (zeRun 14 0 [some (.ref 119), some (.ref 17)] [] (zk B im lm)) := ze_call (ok := true) rfl 2 rfl rfl rfl
def m_15  (im : zI) (lm : zJ) : zR :=
    zCk (zeInb (im 42 1) 6) <|
    if Int32.toNatClampNeg (im 42 1) = 0 then
      zBd (m_14_44_17  im lm) fun _ im1 lm1 =>
      some (0, im1, lm1)
    else
    if Int32.toNatClampNeg (im 42 1) = 1 then
      zBd (m_14_59_17  im lm) fun _ im2 lm2 =>
      some (0, im2, lm2)
    else
    if Int32.toNatClampNeg (im 42 1) = 2 then
      zBd (m_14_74_17  im lm) fun _ im3 lm3 =>
      some (0, im3, lm3)
    else
    if Int32.toNatClampNeg (im 42 1) = 3 then
      zBd (m_14_89_17  im lm) fun _ im4 lm4 =>
      some (0, im4, lm4)
    else
    if Int32.toNatClampNeg (im 42 1) = 4 then
      zBd (m_14_104_17  im lm) fun _ im5 lm5 =>
      some (0, im5, lm5)
    else
    if Int32.toNatClampNeg (im 42 1) = 5 then
      zBd (m_14_119_17  im lm) fun _ im6 lm6 =>
      some (0, im6, lm6)
    else
    none
theorem m_15_ok {B : zeB}  (im : zI) (lm : zJ) : zL B 0 (m_15  im lm) (zeRun 15 0 [some (.ref 42), some (.ref 17)] [] (zk B im lm)) := by
  unfold m_15
  refine zL_eq d_15_0 ?_
  refine zL_ck fun c1 => ?_
  refine zL_aa (fun h => ?_) (fun h => ?_)
  · refine zL_eq (d_15_8_0 _ _ c1 h) ?_
    refine zL_bdv (d_15_9 _) (m_14_44_17_ok _ _) fun _ im1 lm1 => ?_
    exact zL_retv (d_15_13 _ _)
  refine zL_aa (fun h => ?_) (fun h => ?_)
  · refine zL_eq (d_15_8_1 _ _ c1 h) ?_
    refine zL_bdv (d_15_9_2 _) (m_14_59_17_ok _ _) fun _ im2 lm2 => ?_
    exact zL_retv (d_15_13 _ _)
  refine zL_aa (fun h => ?_) (fun h => ?_)
  · refine zL_eq (d_15_8_2 _ _ c1 h) ?_
    refine zL_bdv (d_15_9_3 _) (m_14_74_17_ok _ _) fun _ im3 lm3 => ?_
    exact zL_retv (d_15_13 _ _)
  refine zL_aa (fun h => ?_) (fun h => ?_)
  · refine zL_eq (d_15_8_3 _ _ c1 h) ?_
    refine zL_bdv (d_15_9_4 _) (m_14_89_17_ok _ _) fun _ im4 lm4 => ?_
    exact zL_retv (d_15_13 _ _)
  refine zL_aa (fun h => ?_) (fun h => ?_)
  · refine zL_eq (d_15_8_4 _ _ c1 h) ?_
    refine zL_bdv (d_15_9_5 _) (m_14_104_17_ok _ _) fun _ im5 lm5 => ?_
    exact zL_retv (d_15_13 _ _)
  refine zL_aa (fun h => ?_) (fun h => ?_)
  · refine zL_eq (d_15_8_5 _ _ c1 h) ?_
    refine zL_bdv (d_15_9_6 _) (m_14_119_17_ok _ _) fun _ im6 lm6 => ?_
    exact zL_retv (d_15_13 _ _)
  exact zL_none
/-! X7_isBeforeFirstPick -/
theorem d_16_0 {B : zeB} {im : Nat → Nat → Int32} {lm : Nat → Nat → Int64}   : zeRun 16 0 [some (.ref 16)] [] (zk B im lm) = if (im 17 0) = 0 then zeRun 16 10 [some (.ref 16)] [] (zk B im lm) else zeRun 16 24 [some (.ref 16)] [] (zk B im lm) := ze_if (ok := true) rfl 4 rfl rfl
theorem d_16_10 {B : zeB} {im : Nat → Nat → Int32} {lm : Nat → Nat → Int64}   : zeRun 16 10 [some (.ref 16)] [] (zk B im lm) = if (im 17 3) = 0 then zeRun 16 20 [some (.ref 16)] [] (zk B im lm) else zeRun 16 24 [some (.ref 16)] [] (zk B im lm) := ze_if (ok := true) rfl 4 rfl rfl
theorem d_16_20 {B : zeB} {im : Nat → Nat → Int32} {lm : Nat → Nat → Int64} (o0 : Option Value)  : zeRun 16 20 [o0] [] (zk B im lm) = some (some (.int 1), (zk B im lm)) := ze_ret (ok := true) rfl 3 rfl rfl
theorem d_16_24 {B : zeB} {im : Nat → Nat → Int32} {lm : Nat → Nat → Int64} (o0 : Option Value)  : zeRun 16 24 [o0] [] (zk B im lm) = some (some (.int 0), (zk B im lm)) := ze_ret (ok := true) rfl 2 rfl rfl
def m_16  (im : zI) (lm : zJ) : zR :=
    some (if (im 17 0) = 0 then if (im 17 3) = 0 then 1 else 0 else 0, im, lm)
theorem m_16_ok {B : zeB}  (im : zI) (lm : zJ) : zL B 1 (m_16  im lm) (zeRun 16 0 [some (.ref 16)] [] (zk B im lm)) := by
  unfold m_16
  refine zL_ifm d_16_0 (fun h => ?_) (fun h => ?_)
  · repeat rw [if_pos h]
    refine zL_ifm d_16_10 (fun h => ?_) (fun h => ?_)
    · repeat rw [if_pos h]
      exact zL_ret (d_16_20 _)
    · repeat rw [if_neg h]
      exact zL_ret (d_16_24 _)
  · repeat rw [if_neg h]
    exact zL_ret (d_16_24 _)
/-! X7_refused -/
theorem d_17_0 {B : zeB} {im : Nat → Nat → Int32} {lm : Nat → Nat → Int64} (l1 : Int32)  : zeRun 17 0 [some (.ref 16), some (.int l1)] [] (zk B im lm) = some (some (.int (-10000003)), (zk B (zeU2 im 16 7 l1) lm)) := ze_ret (ok := true) rfl 5 rfl rfl
def m_17 (l1 : Int32) (im : zI) (lm : zJ) : zR :=
    some ((-10000003), (zeU2 im 16 7 l1), lm)
theorem m_17_ok {B : zeB} (l1 : Int32) (im : zI) (lm : zJ) : zL B 1 (m_17 l1 im lm) (zeRun 17 0 [some (.ref 16), some (.int l1)] [] (zk B im lm)) := by
  unfold m_17
  exact zL_ret (d_17_0 _)
/-! X7_doAddPlayer -/
theorem d_18_0 {B : zeB} {im : Nat → Nat → Int32} {lm : Nat → Nat → Int64}   : zeRun 18 0 [some (.ref 16)] [] (zk B im lm) = zeBh 18 4 [some (.ref 16)] [] (zeRun 16 0 [some (.ref 16)] [] (zk B im lm)) := ze_call (ok := true) rfl 2 rfl rfl rfl
theorem d_18_4 {B : zeB} {im : Nat → Nat → Int32} {lm : Nat → Nat → Int64} (s0 : Int32)  : zeRun 18 4 [some (.ref 16)] [.int s0] (zk B im lm) = if s0 = 0 then zeRun 18 7 [some (.ref 16)] [] (zk B im lm) else zeRun 18 13 [some (.ref 16)] [] (zk B im lm) := ze_if (ok := true) rfl 1 rfl rfl
theorem d_18_7 {B : zeB} {im : Nat → Nat → Int32} {lm : Nat → Nat → Int64}   : zeRun 18 7 [some (.ref 16)] [] (zk B im lm) = zeBh 18 12 [some (.ref 16)] [] (zeRun 17 0 [some (.ref 16), some (.int 1)] [] (zk B im lm)) := ze_call (ok := true) rfl 3 rfl rfl rfl
theorem d_18_12 {B : zeB} {im : Nat → Nat → Int32} {lm : Nat → Nat → Int64} (o0 : Option Value) (s0 : Int32)  : zeRun 18 12 [o0] [.int s0] (zk B im lm) = some (some (.int s0), (zk B im lm)) := ze_ret (ok := true) rfl 1 rfl rfl
theorem d_18_13 {B : zeB} {im : Nat → Nat → Int32} {lm : Nat → Nat → Int64}   : zeRun 18 13 [some (.ref 16)] [] (zk B im lm) = if (im 17 1) < 6 then zeRun 18 28 [some (.ref 16)] [] (zk B im lm) else zeRun 18 25 [some (.ref 16)] [] (zk B im lm) := ze_if (ok := true) rfl 5 rfl rfl
theorem d_18_28 {B : zeB} {im : Nat → Nat → Int32} {lm : Nat → Nat → Int64}   : zeRun 18 28 [some (.ref 16)] [] (zk B im lm) = some (some (.int (((im 17 1) + 1) - 1)), (zk B (zeU2 im 17 1 ((im 17 1) + 1)) lm)) := ze_ret (ok := true) rfl 13 rfl rfl
theorem d_18_25 {B : zeB} {im : Nat → Nat → Int32} {lm : Nat → Nat → Int64} (o0 : Option Value)  : zeRun 18 25 [o0] [] (zk B im lm) = some (some (.int (-10000004)), (zk B im lm)) := ze_ret (ok := true) rfl 2 rfl rfl
def m_18  (im : zI) (lm : zJ) : zR :=
    if (if (im 17 0) = 0 then if (im 17 3) = 0 then 1 else 0 else 0 : Int32) = 0 then
      zBd (m_17 1 im lm) fun v2 im2 lm2 =>
      some (v2, im2, lm2)
    else
      some (if (im 17 1) < 6 then (((im 17 1) + 1) - 1) else (-10000004), if (im 17 1) < 6 then (zeU2 im 17 1 ((im 17 1) + 1)) else im, lm)
theorem m_18_ok {B : zeB}  (im : zI) (lm : zJ) : zL B 1 (m_18  im lm) (zeRun 18 0 [some (.ref 16)] [] (zk B im lm)) := by
  unfold m_18
  refine zL_bdp (e := (if (im 17 0) = 0 then if (im 17 3) = 0 then 1 else 0 else 0 : Int32)) d_18_0 (m_16_ok _ _) ?_
  refine zL_if (d_18_4 _) (fun h => ?_) (fun h => ?_)
  · skip
    refine zL_bd d_18_7 (m_17_ok _ _ _) fun v2 im2 lm2 => ?_
    exact zL_ret (d_18_12 _ _)
  · skip
    refine zL_ifm d_18_13 (fun h => ?_) (fun h => ?_)
    · repeat rw [if_pos h]
      exact zL_ret d_18_28
    · repeat rw [if_neg h]
      exact zL_ret (d_18_25 _)
/-! X7_isError -/
theorem d_19_0 {B : zeB} {im : Nat → Nat → Int32} {lm : Nat → Nat → Int64} (l0 : Int32)  : zeRun 19 0 [some (.int l0)] [] (zk B im lm) = if l0 = (-10000001) then zeRun 19 25 [some (.int l0)] [] (zk B im lm) else zeRun 19 6 [some (.int l0)] [] (zk B im lm) := ze_if (ok := true) rfl 3 rfl rfl
theorem d_19_25 {B : zeB} {im : Nat → Nat → Int32} {lm : Nat → Nat → Int64} (o0 : Option Value)  : zeRun 19 25 [o0] [] (zk B im lm) = some (some (.int 1), (zk B im lm)) := ze_ret (ok := true) rfl 3 rfl rfl
theorem d_19_6 {B : zeB} {im : Nat → Nat → Int32} {lm : Nat → Nat → Int64} (l0 : Int32)  : zeRun 19 6 [some (.int l0)] [] (zk B im lm) = if l0 = (-10000002) then zeRun 19 25 [some (.int l0)] [] (zk B im lm) else zeRun 19 12 [some (.int l0)] [] (zk B im lm) := ze_if (ok := true) rfl 3 rfl rfl
theorem d_19_12 {B : zeB} {im : Nat → Nat → Int32} {lm : Nat → Nat → Int64} (l0 : Int32)  : zeRun 19 12 [some (.int l0)] [] (zk B im lm) = if l0 = (-10000003) then zeRun 19 25 [some (.int l0)] [] (zk B im lm) else zeRun 19 19 [some (.int l0)] [] (zk B im lm) := ze_if (ok := true) rfl 3 rfl rfl
theorem d_19_19 {B : zeB} {im : Nat → Nat → Int32} {lm : Nat → Nat → Int64} (l0 : Int32)  : zeRun 19 19 [some (.int l0)] [] (zk B im lm) = if l0 = (-10000004) then zeRun 19 25 [some (.int l0)] [] (zk B im lm) else zeRun 19 29 [some (.int l0)] [] (zk B im lm) := ze_if (ok := true) rfl 3 rfl rfl
theorem d_19_29 {B : zeB} {im : Nat → Nat → Int32} {lm : Nat → Nat → Int64} (o0 : Option Value)  : zeRun 19 29 [o0] [] (zk B im lm) = some (some (.int 0), (zk B im lm)) := ze_ret (ok := true) rfl 2 rfl rfl
def m_19 (l0 : Int32) (im : zI) (lm : zJ) : zR :=
    some (if l0 = (-10000001) then 1 else if l0 = (-10000002) then 1 else if l0 = (-10000003) then 1 else if l0 = (-10000004) then 1 else 0, im, lm)
theorem m_19_ok {B : zeB} (l0 : Int32) (im : zI) (lm : zJ) : zL B 1 (m_19 l0 im lm) (zeRun 19 0 [some (.int l0)] [] (zk B im lm)) := by
  unfold m_19
  refine zL_ifm (d_19_0 _) (fun h => ?_) (fun h => ?_)
  · repeat rw [if_pos h]
    exact zL_ret (d_19_25 _)
  · repeat rw [if_neg h]
    refine zL_ifm (d_19_6 _) (fun h => ?_) (fun h => ?_)
    · repeat rw [if_pos h]
      exact zL_ret (d_19_25 _)
    · repeat rw [if_neg h]
      refine zL_ifm (d_19_12 _) (fun h => ?_) (fun h => ?_)
      · repeat rw [if_pos h]
        exact zL_ret (d_19_25 _)
      · repeat rw [if_neg h]
        refine zL_ifm (d_19_19 _) (fun h => ?_) (fun h => ?_)
        · repeat rw [if_pos h]
          exact zL_ret (d_19_25 _)
        · repeat rw [if_neg h]
          exact zL_ret (d_19_29 _)
/-! X1_commit -/
theorem d_20_0 {B : zeB} {im : Nat → Nat → Int32} {lm : Nat → Nat → Int64}   : zeRun 20 0 [some (.ref 42)] [] (zk B im lm) = if (im 42 1) = 5 then zeRun 20 9 [some (.ref 42)] [.ref 42] (zk B im lm) else zeRun 20 13 [some (.ref 42)] [.ref 42] (zk B im lm) := ze_if (ok := true) rfl 5 rfl rfl
theorem d_20_9 {B : zeB} {im : Nat → Nat → Int32} {lm : Nat → Nat → Int64}   : zeRun 20 9 [some (.ref 42)] [.ref 42] (zk B im lm) = zeRun 20 19 [some (.ref 42)] [.int 0, .ref 42] (zk B im lm) := ze_go (ok := true) rfl 2 rfl rfl
theorem d_20_13 {B : zeB} {im : Nat → Nat → Int32} {lm : Nat → Nat → Int64}   : zeRun 20 13 [some (.ref 42)] [.ref 42] (zk B im lm) = zeRun 20 19 [some (.ref 42)] [.int ((im 42 1) + 1), .ref 42] (zk B im lm) := ze_go (ok := true) rfl 4 rfl rfl
theorem d_20_19 {B : zeB} {im : Nat → Nat → Int32} {lm : Nat → Nat → Int64} (s1 : Int32)  : zeRun 20 19 [some (.ref 42)] [.int s1, .ref 42] (zk B im lm) = if 5 ≤ (im 42 0) then zeRun 20 40 [some (.ref 42)] [] (zk B (zeU2 im 42 1 s1) lm) else zeRun 20 30 [some (.ref 42)] [] (zk B (zeU2 im 42 1 s1) lm) := ze_if (ok := true) rfl 5 rfl rfl
theorem d_20_40 {B : zeB} {im : Nat → Nat → Int32} {lm : Nat → Nat → Int64} (o0 : Option Value)  : zeRun 20 40 [o0] [] (zk B im lm) = some (none, (zk B im lm)) := ze_ret (ok := true) rfl 1 rfl rfl
theorem d_20_30 {B : zeB} {im : Nat → Nat → Int32} {lm : Nat → Nat → Int64}   : zeRun 20 30 [some (.ref 42)] [] (zk B im lm) = some (none, (zk B (zeU2 im 42 0 ((im 42 0) + 1)) lm)) := ze_ret (ok := true) rfl 7 rfl rfl
def J_20_19  (s1 : Int32) (im : zI) (lm : zJ) : zR :=
    some (0, if 5 ≤ (im 42 0) then (zeU2 im 42 1 s1) else (zeU2 (zeU2 im 42 1 s1) 42 0 (((zeU2 im 42 1 s1) 42 0) + 1)), lm)
theorem J_20_19_ok {B : zeB} (s1 : Int32)  (im : zI) (lm : zJ) : zL B 0 (J_20_19  s1 im lm) (zeRun 20 19 [some (.ref 42)] [.int s1, .ref 42] (zk B im lm)) := by
  unfold J_20_19
  refine zL_ifm (d_20_19 _) (fun h => ?_) (fun h => ?_)
  · repeat rw [if_pos h]
    exact zL_retv (d_20_40 _)
  · repeat rw [if_neg h]
    exact zL_retv d_20_30
def m_20  (im : zI) (lm : zJ) : zR :=
    J_20_19   (if (im 42 1) = 5 then 0 else ((im 42 1) + 1)) im lm
theorem m_20_ok {B : zeB}  (im : zI) (lm : zJ) : zL B 0 (m_20  im lm) (zeRun 20 0 [some (.ref 42)] [] (zk B im lm)) := by
  unfold m_20
  refine zL_ifm d_20_0 (fun h => ?_) (fun h => ?_)
  · repeat rw [if_pos h]
    refine zL_eq d_20_9 ?_
    exact J_20_19_ok   _ _ _
  · repeat rw [if_neg h]
    refine zL_eq d_20_13 ?_
    exact J_20_19_ok   _ _ _
/-! X7_recorded -/
theorem d_21_0 {B : zeB} {im : Nat → Nat → Int32} {lm : Nat → Nat → Int64} (l1 : Int32)  : zeRun 21 0 [some (.ref 16), some (.int l1)] [] (zk B im lm) = zeBh 21 4 [some (.ref 16), some (.int l1)] [] (zeRun 19 0 [some (.int l1)] [] (zk B im lm)) := ze_call (ok := true) rfl 2 rfl rfl rfl
theorem d_21_4 {B : zeB} {im : Nat → Nat → Int32} {lm : Nat → Nat → Int64} (l1 : Int32) (s0 : Int32)  : zeRun 21 4 [some (.ref 16), some (.int l1)] [.int s0] (zk B im lm) = if s0 = 0 then zeRun 21 7 [some (.ref 16), some (.int l1)] [] (zk B im lm) else zeRun 21 20 [some (.ref 16), some (.int l1)] [] (zk B im lm) := ze_if (ok := true) rfl 1 rfl rfl
theorem d_21_7 {B : zeB} {im : Nat → Nat → Int32} {lm : Nat → Nat → Int64} (l1 : Int32)  : zeRun 21 7 [some (.ref 16), some (.int l1)] [] (zk B im lm) = if l1 = (-10000005) then zeRun 21 20 [some (.ref 16), some (.int l1)] [] (zk B im lm) else zeRun 21 13 [some (.ref 16), some (.int l1)] [] (zk B im lm) := ze_if (ok := true) rfl 3 rfl rfl
theorem d_21_20 {B : zeB} {im : Nat → Nat → Int32} {lm : Nat → Nat → Int64} (o0 : Option Value) (l1 : Int32)  : zeRun 21 20 [o0, some (.int l1)] [] (zk B im lm) = some (some (.int l1), (zk B im lm)) := ze_ret (ok := true) rfl 2 rfl rfl
theorem d_21_13 {B : zeB} {im : Nat → Nat → Int32} {lm : Nat → Nat → Int64} (l1 : Int32)  : zeRun 21 13 [some (.ref 16), some (.int l1)] [] (zk B im lm) = zeBh 21 20 [some (.ref 16), some (.int l1)] [] (zeRun 20 0 [some (.ref 42)] [] (zk B im lm)) := ze_call (ok := true) rfl 3 rfl rfl rfl
def m_21 (l1 : Int32) (im : zI) (lm : zJ) : zR :=
    if (if l1 = (-10000001) then 1 else if l1 = (-10000002) then 1 else if l1 = (-10000003) then 1 else if l1 = (-10000004) then 1 else 0 : Int32) = 0 then
      if l1 = (-10000005) then
        some (l1, im, lm)
      else
        zBd (m_20  im lm) fun _ im2 lm2 =>
        some (l1, im2, lm2)
    else
      some (l1, im, lm)
theorem m_21_ok {B : zeB} (l1 : Int32) (im : zI) (lm : zJ) : zL B 1 (m_21 l1 im lm) (zeRun 21 0 [some (.ref 16), some (.int l1)] [] (zk B im lm)) := by
  unfold m_21
  refine zL_bdp (e := (if l1 = (-10000001) then 1 else if l1 = (-10000002) then 1 else if l1 = (-10000003) then 1 else if l1 = (-10000004) then 1 else 0 : Int32)) (d_21_0 _) (m_19_ok _ _ _) ?_
  refine zL_if (d_21_4 _ _) (fun h => ?_) (fun h => ?_)
  · skip
    refine zL_if (d_21_7 _) (fun h => ?_) (fun h => ?_)
    · skip
      exact zL_ret (d_21_20 _ _)
    · skip
      refine zL_bdv (d_21_13 _) (m_20_ok _ _) fun _ im2 lm2 => ?_
      exact zL_ret (d_21_20 _ _)
  · skip
    exact zL_ret (d_21_20 _ _)
/-! X7_addPlayer -/
theorem d_22_0 {B : zeB} {im : Nat → Nat → Int32} {lm : Nat → Nat → Int64}   : zeRun 22 0 [some (.ref 16)] [] (zk B im lm) = zeBh 22 11 [some (.ref 16)] [] (zeRun 15 0 [some (.ref 42), some (.ref 17)] [] (zk B im lm)) := ze_call (ok := true) rfl 5 rfl rfl rfl
theorem d_22_11 {B : zeB} {im : Nat → Nat → Int32} {lm : Nat → Nat → Int64}   : zeRun 22 11 [some (.ref 16)] [] (zk B im lm) = zeBh 22 16 [some (.ref 16)] [.ref 16] (zeRun 18 0 [some (.ref 16)] [] (zk B im lm)) := ze_call (ok := true) rfl 3 rfl rfl rfl
theorem d_22_16 {B : zeB} {im : Nat → Nat → Int32} {lm : Nat → Nat → Int64} (o0 : Option Value) (s1 : Int32)  : zeRun 22 16 [o0] [.int s1, .ref 16] (zk B im lm) = zeBh 22 19 [o0] [] (zeRun 21 0 [some (.ref 16), some (.int s1)] [] (zk B im lm)) := ze_call (ok := true) rfl 1 rfl rfl rfl
theorem d_22_19 {B : zeB} {im : Nat → Nat → Int32} {lm : Nat → Nat → Int64} (o0 : Option Value) (s0 : Int32)  : zeRun 22 19 [o0] [.int s0] (zk B im lm) = some (some (.int s0), (zk B im lm)) := ze_ret (ok := true) rfl 1 rfl rfl
def m_22  (im : zI) (lm : zJ) : zR :=
    zBd (m_15  im lm) fun _ im1 lm1 =>
    zBd (m_18  im1 lm1) fun v2 im2 lm2 =>
    zBd (m_21 v2 im2 lm2) fun v3 im3 lm3 =>
    some (v3, im3, lm3)
theorem m_22_ok {B : zeB}  (im : zI) (lm : zJ) : zL B 1 (m_22  im lm) (zeRun 22 0 [some (.ref 16)] [] (zk B im lm)) := by
  unfold m_22
  refine zL_bdv d_22_0 (m_15_ok _ _) fun _ im1 lm1 => ?_
  refine zL_bd d_22_11 (m_18_ok _ _) fun v2 im2 lm2 => ?_
  refine zL_bd (d_22_16 _ _) (m_21_ok _ _ _) fun v3 im3 lm3 => ?_
  exact zL_ret (d_22_19 _ _)
/-! X8_hasBegun -/
theorem d_23_0 {B : zeB} {im : Nat → Nat → Int32} {lm : Nat → Nat → Int64}   : zeRun 23 0 [some (.ref 170)] [] (zk B im lm) = if (im 171 10) = 0 then zeRun 23 10 [some (.ref 170)] [] (zk B im lm) else zeRun 23 19 [some (.ref 170)] [] (zk B im lm) := ze_if (ok := true) rfl 5 rfl rfl
theorem d_23_10 {B : zeB} {im : Nat → Nat → Int32} {lm : Nat → Nat → Int64}   : zeRun 23 10 [some (.ref 170)] [] (zk B im lm) = if (im 171 0) = 0 then zeRun 23 23 [some (.ref 170)] [] (zk B im lm) else zeRun 23 19 [some (.ref 170)] [] (zk B im lm) := ze_if (ok := true) rfl 5 rfl rfl
theorem d_23_23 {B : zeB} {im : Nat → Nat → Int32} {lm : Nat → Nat → Int64} (o0 : Option Value)  : zeRun 23 23 [o0] [] (zk B im lm) = some (some (.int 0), (zk B im lm)) := ze_ret (ok := true) rfl 2 rfl rfl
theorem d_23_19 {B : zeB} {im : Nat → Nat → Int32} {lm : Nat → Nat → Int64} (o0 : Option Value)  : zeRun 23 19 [o0] [] (zk B im lm) = some (some (.int 1), (zk B im lm)) := ze_ret (ok := true) rfl 3 rfl rfl
def m_23  (im : zI) (lm : zJ) : zR :=
    some (if (im 171 10) = 0 then if (im 171 0) = 0 then 0 else 1 else 1, im, lm)
theorem m_23_ok {B : zeB}  (im : zI) (lm : zJ) : zL B 1 (m_23  im lm) (zeRun 23 0 [some (.ref 170)] [] (zk B im lm)) := by
  unfold m_23
  refine zL_ifm d_23_0 (fun h => ?_) (fun h => ?_)
  · repeat rw [if_pos h]
    refine zL_ifm d_23_10 (fun h => ?_) (fun h => ?_)
    · repeat rw [if_pos h]
      exact zL_ret (d_23_23 _)
    · repeat rw [if_neg h]
      exact zL_ret (d_23_19 _)
  · repeat rw [if_neg h]
    exact zL_ret (d_23_19 _)
/-! X8_refuse -/
theorem d_24_0 {B : zeB} {im : Nat → Nat → Int32} {lm : Nat → Nat → Int64} (l1 : Int32)  : zeRun 24 0 [some (.ref 170), some (.int l1)] [] (zk B im lm) = some (some (.int (-10000003)), (zk B (zeU2 im 170 5 l1) lm)) := ze_ret (ok := true) rfl 5 rfl rfl
def m_24 (l1 : Int32) (im : zI) (lm : zJ) : zR :=
    some ((-10000003), (zeU2 im 170 5 l1), lm)
theorem m_24_ok {B : zeB} (l1 : Int32) (im : zI) (lm : zJ) : zL B 1 (m_24 l1 im lm) (zeRun 24 0 [some (.ref 170), some (.int l1)] [] (zk B im lm)) := by
  unfold m_24
  exact zL_ret (d_24_0 _)
/-! X8_record -/
theorem d_25_0 {B : zeB} {im : Nat → Nat → Int32} {lm : Nat → Nat → Int64} (o1 : Option Value)  : zeRun 25 0 [some (.ref 170), o1] [] (zk B im lm) = if (im 170 2) = 5 then zeRun 25 8 [some (.ref 170), o1] [] (zk B im lm) else zeRun 25 54 [some (.ref 170), o1] [] (zk B im lm) := ze_if (ok := true) rfl 4 rfl rfl
theorem d_25_8 {B : zeB} {im : Nat → Nat → Int32} {lm : Nat → Nat → Int64} (o1 : Option Value)  : zeRun 25 8 [some (.ref 170), o1] [] (zk B im lm) = zeRun 25 20 [some (.ref 170), some (.int 0)] [] (zk B (zeU2 im 170 2 ((im 170 2) - 1)) lm) := ze_go (ok := true) rfl 8 rfl rfl
theorem d_25_54 {B : zeB} {im : Nat → Nat → Int32} {lm : Nat → Nat → Int64} (o1 : Option Value)  : zeRun 25 54 [some (.ref 170), o1] [] (zk B im lm) = zeRun 25 56 [some (.ref 170), some (.int 0)] [] (zk B im lm) := ze_go (ok := true) rfl 2 rfl rfl
theorem d_25_56 {B : zeB} {im : Nat → Nat → Int32} {lm : Nat → Nat → Int64} (l1 : Int32)  : zeRun 25 56 [some (.ref 170), some (.int l1)] [] (zk B im lm) = if 360 ≤ l1 then zeRun 25 90 [some (.ref 170), some (.int l1)] [] (zk B im lm) else zeRun 25 63 [some (.ref 170), some (.int l1)] [] (zk B im lm) := ze_if (ok := true) rfl 3 rfl rfl
theorem d_25_90 {B : zeB} {im : Nat → Nat → Int32} {lm : Nat → Nat → Int64} (o1 : Option Value)  : zeRun 25 90 [some (.ref 170), o1] [] (zk B im lm) = some (none, (zk B (zeU2 im 170 2 ((im 170 2) + 1)) lm)) := ze_ret (ok := true) rfl 7 rfl rfl
theorem d_25_63 {B : zeB} {im : Nat → Nat → Int32} {lm : Nat → Nat → Int64} (l1 : Int32) (c0 : zeInb l1 360 = true) (c1 : zeInb ((360 * (im 170 2)) + l1) 1800 = true) : zeRun 25 63 [some (.ref 170), some (.int l1)] [] (zk B im lm) = zeRun 25 56 [some (.ref 170), some (.int (l1 + 1))] [] (zk B (zeU2 im 172 (Int32.toNatClampNeg ((360 * (im 170 2)) + l1)) (im 171 (Int32.toNatClampNeg l1))) lm) := ze_go (ok := (zeInb ((360 * (im 170 2)) + l1) 1800 && (zeInb l1 360 && true))) rfl 15 rfl (zeA2 c1 (zeA2 c0 rfl))
theorem d_25_20 {B : zeB} {im : Nat → Nat → Int32} {lm : Nat → Nat → Int64} (l1 : Int32)  : zeRun 25 20 [some (.ref 170), some (.int l1)] [] (zk B im lm) = if (360 * (im 170 2)) ≤ l1 then zeRun 25 54 [some (.ref 170), some (.int l1)] [] (zk B im lm) else zeRun 25 32 [some (.ref 170), some (.int l1)] [] (zk B im lm) := ze_if (ok := true) rfl 6 rfl rfl
theorem d_25_32 {B : zeB} {im : Nat → Nat → Int32} {lm : Nat → Nat → Int64} (l1 : Int32) (c0 : zeInb (l1 + 360) 1800 = true) (c1 : zeInb l1 1800 = true) : zeRun 25 32 [some (.ref 170), some (.int l1)] [] (zk B im lm) = zeRun 25 20 [some (.ref 170), some (.int (l1 + 1))] [] (zk B (zeU2 im 172 (Int32.toNatClampNeg l1) (im 172 (Int32.toNatClampNeg (l1 + 360)))) lm) := ze_go (ok := (zeInb l1 1800 && (zeInb (l1 + 360) 1800 && true))) rfl 12 rfl (zeA2 c1 (zeA2 c0 rfl))
def F_25_56  : Nat → Int32 → zI → zJ → zR
  | 0, _, _, _ => none
  | n + 1, l1, im, lm =>
    if 360 ≤ l1 then
      some (0, (zeU2 im 170 2 ((im 170 2) + 1)), lm)
    else
      zCk (zeInb l1 360) <|
      zCk (zeInb ((360 * (im 170 2)) + l1) 1800) <|
      F_25_56  n (l1 + 1) (zeU2 im 172 (Int32.toNatClampNeg ((360 * (im 170 2)) + l1)) (im 171 (Int32.toNatClampNeg l1))) lm
theorem F_25_56_ok {B : zeB} : ∀ (n : Nat) (l1 : Int32)  (im : zI) (lm : zJ), zL B 0 (F_25_56  n l1 im lm) (zeRun 25 56 [some (.ref 170), some (.int l1)] [] (zk B im lm)) := by
  intro n
  induction n with
  | zero => intros; exact zL_none
  | succ n ih =>
    intro l1 im lm
    unfold F_25_56
    refine zL_if (d_25_56 _) (fun h => ?_) (fun h => ?_)
    · skip
      exact zL_retv (d_25_90 _)
    · skip
      refine zL_ck fun c1 => ?_
      refine zL_ck fun c2 => ?_
      refine zL_eq (d_25_63 _ c1 c2) ?_
      exact ih _ _ _
def F_25_20  : Nat → Int32 → zI → zJ → zR
  | 0, _, _, _ => none
  | n + 1, l1, im, lm =>
    if (360 * (im 170 2)) ≤ l1 then
      F_25_56  2000 0 im lm
    else
      zCk (zeInb (l1 + 360) 1800) <|
      zCk (zeInb l1 1800) <|
      F_25_20  n (l1 + 1) (zeU2 im 172 (Int32.toNatClampNeg l1) (im 172 (Int32.toNatClampNeg (l1 + 360)))) lm
theorem F_25_20_ok {B : zeB} : ∀ (n : Nat) (l1 : Int32)  (im : zI) (lm : zJ), zL B 0 (F_25_20  n l1 im lm) (zeRun 25 20 [some (.ref 170), some (.int l1)] [] (zk B im lm)) := by
  intro n
  induction n with
  | zero => intros; exact zL_none
  | succ n ih =>
    intro l1 im lm
    unfold F_25_20
    refine zL_if (d_25_20 _) (fun h => ?_) (fun h => ?_)
    · skip
      refine zL_eq (d_25_54 _) ?_
      exact F_25_56_ok  _ _ _ _
    · skip
      refine zL_ck fun c1 => ?_
      refine zL_ck fun c2 => ?_
      refine zL_eq (d_25_32 _ c1 c2) ?_
      exact ih _ _ _
def m_25  (im : zI) (lm : zJ) : zR :=
    if (im 170 2) = 5 then
      F_25_20  2000 0 (zeU2 im 170 2 ((im 170 2) - 1)) lm
    else
      F_25_56  2000 0 im lm
theorem m_25_ok {B : zeB}  (im : zI) (lm : zJ) : zL B 0 (m_25  im lm) (zeRun 25 0 [some (.ref 170), none] [] (zk B im lm)) := by
  unfold m_25
  refine zL_if (d_25_0 _) (fun h => ?_) (fun h => ?_)
  · skip
    refine zL_eq (d_25_8 _) ?_
    exact F_25_20_ok  _ _ _ _
  · skip
    refine zL_eq (d_25_54 _) ?_
    exact F_25_56_ok  _ _ _ _
/-! X8_addPlayer -/
theorem d_26_0 {B : zeB} {im : Nat → Nat → Int32} {lm : Nat → Nat → Int64}   : zeRun 26 0 [some (.ref 170)] [] (zk B im lm) = zeBh 26 4 [some (.ref 170)] [] (zeRun 23 0 [some (.ref 170)] [] (zk B im lm)) := ze_call (ok := true) rfl 2 rfl rfl rfl
theorem d_26_4 {B : zeB} {im : Nat → Nat → Int32} {lm : Nat → Nat → Int64} (s0 : Int32)  : zeRun 26 4 [some (.ref 170)] [.int s0] (zk B im lm) = if s0 = 0 then zeRun 26 13 [some (.ref 170)] [] (zk B im lm) else zeRun 26 7 [some (.ref 170)] [] (zk B im lm) := ze_if (ok := true) rfl 1 rfl rfl
theorem d_26_13 {B : zeB} {im : Nat → Nat → Int32} {lm : Nat → Nat → Int64}   : zeRun 26 13 [some (.ref 170)] [] (zk B im lm) = if (im 171 1) = 6 then zeRun 26 24 [some (.ref 170)] [] (zk B im lm) else zeRun 26 27 [some (.ref 170)] [] (zk B im lm) := ze_if (ok := true) rfl 6 rfl rfl
theorem d_26_24 {B : zeB} {im : Nat → Nat → Int32} {lm : Nat → Nat → Int64} (o0 : Option Value)  : zeRun 26 24 [o0] [] (zk B im lm) = some (some (.int (-10000004)), (zk B im lm)) := ze_ret (ok := true) rfl 2 rfl rfl
theorem d_26_27 {B : zeB} {im : Nat → Nat → Int32} {lm : Nat → Nat → Int64}   : zeRun 26 27 [some (.ref 170)] [] (zk B im lm) = zeBh 26 31 [some (.ref 170)] [] (zeRun 25 0 [some (.ref 170), none] [] (zk B im lm)) := ze_call (ok := true) rfl 2 rfl rfl rfl
theorem d_26_31 {B : zeB} {im : Nat → Nat → Int32} {lm : Nat → Nat → Int64}   : zeRun 26 31 [some (.ref 170)] [] (zk B im lm) = some (some (.int (((im 171 1) + 1) - 1)), (zk B (zeU2 im 171 1 ((im 171 1) + 1)) lm)) := ze_ret (ok := true) rfl 15 rfl rfl
theorem d_26_7 {B : zeB} {im : Nat → Nat → Int32} {lm : Nat → Nat → Int64}   : zeRun 26 7 [some (.ref 170)] [] (zk B im lm) = zeBh 26 12 [some (.ref 170)] [] (zeRun 24 0 [some (.ref 170), some (.int 1)] [] (zk B im lm)) := ze_call (ok := true) rfl 3 rfl rfl rfl
theorem d_26_12 {B : zeB} {im : Nat → Nat → Int32} {lm : Nat → Nat → Int64} (o0 : Option Value) (s0 : Int32)  : zeRun 26 12 [o0] [.int s0] (zk B im lm) = some (some (.int s0), (zk B im lm)) := ze_ret (ok := true) rfl 1 rfl rfl
def m_26  (im : zI) (lm : zJ) : zR :=
    if (if (im 171 10) = 0 then if (im 171 0) = 0 then 0 else 1 else 1 : Int32) = 0 then
      if (im 171 1) = 6 then
        some ((-10000004), im, lm)
      else
        zBd (m_25  im lm) fun _ im2 lm2 =>
        some ((((im2 171 1) + 1) - 1), (zeU2 im2 171 1 ((im2 171 1) + 1)), lm2)
    else
      zBd (m_24 1 im lm) fun v3 im3 lm3 =>
      some (v3, im3, lm3)
theorem m_26_ok {B : zeB}  (im : zI) (lm : zJ) : zL B 1 (m_26  im lm) (zeRun 26 0 [some (.ref 170)] [] (zk B im lm)) := by
  unfold m_26
  refine zL_bdp (e := (if (im 171 10) = 0 then if (im 171 0) = 0 then 0 else 1 else 1 : Int32)) d_26_0 (m_23_ok _ _) ?_
  refine zL_if (d_26_4 _) (fun h => ?_) (fun h => ?_)
  · skip
    refine zL_if d_26_13 (fun h => ?_) (fun h => ?_)
    · skip
      exact zL_ret (d_26_24 _)
    · skip
      refine zL_bdv d_26_27 (m_25_ok _ _) fun _ im2 lm2 => ?_
      exact zL_ret d_26_31
  · skip
    refine zL_bd d_26_7 (m_24_ok _ _ _) fun v3 im3 lm3 => ?_
    exact zL_ret (d_26_12 _ _)
/-! X7_isClue -/
theorem d_27_0 {B : zeB} {im : Nat → Nat → Int32} {lm : Nat → Nat → Int64} (l0 : Int32)  : zeRun 27 0 [some (.int l0)] [] (zk B im lm) = if l0 < 0 then zeRun 27 14 [some (.int l0)] [] (zk B im lm) else zeRun 27 4 [some (.int l0)] [] (zk B im lm) := ze_if (ok := true) rfl 2 rfl rfl
theorem d_27_14 {B : zeB} {im : Nat → Nat → Int32} {lm : Nat → Nat → Int64} (o0 : Option Value)  : zeRun 27 14 [o0] [] (zk B im lm) = some (some (.int 0), (zk B im lm)) := ze_ret (ok := true) rfl 2 rfl rfl
theorem d_27_4 {B : zeB} {im : Nat → Nat → Int32} {lm : Nat → Nat → Int64} (l0 : Int32)  : zeRun 27 4 [some (.int l0)] [] (zk B im lm) = if 25 ≤ l0 then zeRun 27 14 [some (.int l0)] [] (zk B im lm) else zeRun 27 10 [some (.int l0)] [] (zk B im lm) := ze_if (ok := true) rfl 3 rfl rfl
theorem d_27_10 {B : zeB} {im : Nat → Nat → Int32} {lm : Nat → Nat → Int64} (o0 : Option Value)  : zeRun 27 10 [o0] [] (zk B im lm) = some (some (.int 1), (zk B im lm)) := ze_ret (ok := true) rfl 3 rfl rfl
def m_27 (l0 : Int32) (im : zI) (lm : zJ) : zR :=
    some (if l0 < 0 then 0 else if 25 ≤ l0 then 0 else 1, im, lm)
theorem m_27_ok {B : zeB} (l0 : Int32) (im : zI) (lm : zJ) : zL B 1 (m_27 l0 im lm) (zeRun 27 0 [some (.int l0)] [] (zk B im lm)) := by
  unfold m_27
  refine zL_ifm (d_27_0 _) (fun h => ?_) (fun h => ?_)
  · repeat rw [if_pos h]
    exact zL_ret (d_27_14 _)
  · repeat rw [if_neg h]
    refine zL_ifm (d_27_4 _) (fun h => ?_) (fun h => ?_)
    · repeat rw [if_pos h]
      exact zL_ret (d_27_14 _)
    · repeat rw [if_neg h]
      exact zL_ret (d_27_10 _)
/-! X7_bitOf -/
theorem d_28_0 {B : zeB} {im : Nat → Nat → Int32} {lm : Nat → Nat → Int64} (l0 : Int32) (l1 : Int32)  : zeRun 28 0 [some (.int l0), some (.int l1)] [] (zk B im lm) = some (some (.int ((l0 >>> (l1 &&& 31)) &&& 1)), (zk B im lm)) := ze_ret (ok := true) rfl 6 rfl rfl
def m_28 (l0 : Int32) (l1 : Int32) (im : zI) (lm : zJ) : zR :=
    some (((l0 >>> (l1 &&& 31)) &&& 1), im, lm)
theorem m_28_ok {B : zeB} (l0 : Int32) (l1 : Int32) (im : zI) (lm : zJ) : zL B 1 (m_28 l0 l1 im lm) (zeRun 28 0 [some (.int l0), some (.int l1)] [] (zk B im lm)) := by
  unfold m_28
  exact zL_ret (d_28_0 _ _)
/-! J6_bitCount_0f7a4 -/
theorem d_29_0 {B : zeB} {im : Nat → Nat → Int32} {lm : Nat → Nat → Int64} (l0 : Int32)  : zeRun 29 0 [some (.int l0)] [] (zk B im lm) = some (some (.int ((((((((l0 - ((zfiushr l0 1) &&& 1431655765)) &&& 858993459) + ((zfiushr (l0 - ((zfiushr l0 1) &&& 1431655765)) 2) &&& 858993459)) + (zfiushr (((l0 - ((zfiushr l0 1) &&& 1431655765)) &&& 858993459) + ((zfiushr (l0 - ((zfiushr l0 1) &&& 1431655765)) 2) &&& 858993459)) 4)) &&& 252645135) + (zfiushr (((((l0 - ((zfiushr l0 1) &&& 1431655765)) &&& 858993459) + ((zfiushr (l0 - ((zfiushr l0 1) &&& 1431655765)) 2) &&& 858993459)) + (zfiushr (((l0 - ((zfiushr l0 1) &&& 1431655765)) &&& 858993459) + ((zfiushr (l0 - ((zfiushr l0 1) &&& 1431655765)) 2) &&& 858993459)) 4)) &&& 252645135) 8)) + (zfiushr ((((((l0 - ((zfiushr l0 1) &&& 1431655765)) &&& 858993459) + ((zfiushr (l0 - ((zfiushr l0 1) &&& 1431655765)) 2) &&& 858993459)) + (zfiushr (((l0 - ((zfiushr l0 1) &&& 1431655765)) &&& 858993459) + ((zfiushr (l0 - ((zfiushr l0 1) &&& 1431655765)) 2) &&& 858993459)) 4)) &&& 252645135) + (zfiushr (((((l0 - ((zfiushr l0 1) &&& 1431655765)) &&& 858993459) + ((zfiushr (l0 - ((zfiushr l0 1) &&& 1431655765)) 2) &&& 858993459)) + (zfiushr (((l0 - ((zfiushr l0 1) &&& 1431655765)) &&& 858993459) + ((zfiushr (l0 - ((zfiushr l0 1) &&& 1431655765)) 2) &&& 858993459)) 4)) &&& 252645135) 8)) 16)) &&& 63)), (zk B im lm)) := ze_ret (ok := true) rfl 42 rfl rfl
def m_29 (l0 : Int32) (im : zI) (lm : zJ) : zR :=
    some (((((((((l0 - ((zfiushr l0 1) &&& 1431655765)) &&& 858993459) + ((zfiushr (l0 - ((zfiushr l0 1) &&& 1431655765)) 2) &&& 858993459)) + (zfiushr (((l0 - ((zfiushr l0 1) &&& 1431655765)) &&& 858993459) + ((zfiushr (l0 - ((zfiushr l0 1) &&& 1431655765)) 2) &&& 858993459)) 4)) &&& 252645135) + (zfiushr (((((l0 - ((zfiushr l0 1) &&& 1431655765)) &&& 858993459) + ((zfiushr (l0 - ((zfiushr l0 1) &&& 1431655765)) 2) &&& 858993459)) + (zfiushr (((l0 - ((zfiushr l0 1) &&& 1431655765)) &&& 858993459) + ((zfiushr (l0 - ((zfiushr l0 1) &&& 1431655765)) 2) &&& 858993459)) 4)) &&& 252645135) 8)) + (zfiushr ((((((l0 - ((zfiushr l0 1) &&& 1431655765)) &&& 858993459) + ((zfiushr (l0 - ((zfiushr l0 1) &&& 1431655765)) 2) &&& 858993459)) + (zfiushr (((l0 - ((zfiushr l0 1) &&& 1431655765)) &&& 858993459) + ((zfiushr (l0 - ((zfiushr l0 1) &&& 1431655765)) 2) &&& 858993459)) 4)) &&& 252645135) + (zfiushr (((((l0 - ((zfiushr l0 1) &&& 1431655765)) &&& 858993459) + ((zfiushr (l0 - ((zfiushr l0 1) &&& 1431655765)) 2) &&& 858993459)) + (zfiushr (((l0 - ((zfiushr l0 1) &&& 1431655765)) &&& 858993459) + ((zfiushr (l0 - ((zfiushr l0 1) &&& 1431655765)) 2) &&& 858993459)) 4)) &&& 252645135) 8)) 16)) &&& 63), im, lm)
theorem m_29_ok {B : zeB} (l0 : Int32) (im : zI) (lm : zJ) : zL B 1 (m_29 l0 im lm) (zeRun 29 0 [some (.int l0)] [] (zk B im lm)) := by
  unfold m_29
  exact zL_ret (d_29_0 _)
/-! X7_doSetWagerClue -/
theorem d_30_0 {B : zeB} {im : Nat → Nat → Int32} {lm : Nat → Nat → Int64} (l1 : Int32) (l2 : Int32)  : zeRun 30 0 [some (.ref 16), some (.int l1), some (.int l2)] [] (zk B im lm) = zeBh 30 4 [some (.ref 16), some (.int l1), some (.int l2)] [] (zeRun 27 0 [some (.int l1)] [] (zk B im lm)) := ze_call (ok := true) rfl 2 rfl rfl rfl
theorem d_30_4 {B : zeB} {im : Nat → Nat → Int32} {lm : Nat → Nat → Int64} (l1 : Int32) (l2 : Int32) (s0 : Int32)  : zeRun 30 4 [some (.ref 16), some (.int l1), some (.int l2)] [.int s0] (zk B im lm) = if s0 = 0 then zeRun 30 7 [some (.ref 16), some (.int l1), some (.int l2)] [] (zk B im lm) else zeRun 30 10 [some (.ref 16), some (.int l1), some (.int l2)] [] (zk B im lm) := ze_if (ok := true) rfl 1 rfl rfl
theorem d_30_7 {B : zeB} {im : Nat → Nat → Int32} {lm : Nat → Nat → Int64} (o0 : Option Value) (o1 : Option Value) (o2 : Option Value)  : zeRun 30 7 [o0, o1, o2] [] (zk B im lm) = some (some (.int (-10000001)), (zk B im lm)) := ze_ret (ok := true) rfl 2 rfl rfl
theorem d_30_10 {B : zeB} {im : Nat → Nat → Int32} {lm : Nat → Nat → Int64} (l1 : Int32) (l2 : Int32)  : zeRun 30 10 [some (.ref 16), some (.int l1), some (.int l2)] [] (zk B im lm) = zeBh 30 14 [some (.ref 16), some (.int l1), some (.int l2)] [] (zeRun 16 0 [some (.ref 16)] [] (zk B im lm)) := ze_call (ok := true) rfl 2 rfl rfl rfl
theorem d_30_14 {B : zeB} {im : Nat → Nat → Int32} {lm : Nat → Nat → Int64} (l1 : Int32) (l2 : Int32) (s0 : Int32)  : zeRun 30 14 [some (.ref 16), some (.int l1), some (.int l2)] [.int s0] (zk B im lm) = if s0 = 0 then zeRun 30 17 [some (.ref 16), some (.int l1), some (.int l2)] [] (zk B im lm) else zeRun 30 23 [some (.ref 16), some (.int l1), some (.int l2)] [] (zk B im lm) := ze_if (ok := true) rfl 1 rfl rfl
theorem d_30_17 {B : zeB} {im : Nat → Nat → Int32} {lm : Nat → Nat → Int64} (o1 : Option Value) (o2 : Option Value)  : zeRun 30 17 [some (.ref 16), o1, o2] [] (zk B im lm) = zeBh 30 22 [some (.ref 16), o1, o2] [] (zeRun 17 0 [some (.ref 16), some (.int 1)] [] (zk B im lm)) := ze_call (ok := true) rfl 3 rfl rfl rfl
theorem d_30_22 {B : zeB} {im : Nat → Nat → Int32} {lm : Nat → Nat → Int64} (o0 : Option Value) (o1 : Option Value) (o2 : Option Value) (s0 : Int32)  : zeRun 30 22 [o0, o1, o2] [.int s0] (zk B im lm) = some (some (.int s0), (zk B im lm)) := ze_ret (ok := true) rfl 1 rfl rfl
theorem d_30_23 {B : zeB} {im : Nat → Nat → Int32} {lm : Nat → Nat → Int64} (l1 : Int32) (l2 : Int32)  : zeRun 30 23 [some (.ref 16), some (.int l1), some (.int l2)] [] (zk B im lm) = zeBh 30 34 [some (.ref 16), some (.int l1), some (.int l2)] [] (zeRun 28 0 [some (.int (im 17 2)), some (.int l1)] [] (zk B im lm)) := ze_call (ok := true) rfl 5 rfl rfl rfl
theorem d_30_34 {B : zeB} {im : Nat → Nat → Int32} {lm : Nat → Nat → Int64} (l1 : Int32) (l2 : Int32) (s0 : Int32)  : zeRun 30 34 [some (.ref 16), some (.int l1), some (.int l2)] [.int s0] (zk B im lm) = if s0 = 1 then zeRun 30 38 [some (.ref 16), some (.int l1), some (.int l2)] [] (zk B im lm) else zeRun 30 42 [some (.ref 16), some (.int l1), some (.int l2)] [] (zk B im lm) := ze_if (ok := true) rfl 2 rfl rfl
theorem d_30_38 {B : zeB} {im : Nat → Nat → Int32} {lm : Nat → Nat → Int64} (l1 : Int32) (l2 : Int32)  : zeRun 30 38 [some (.ref 16), some (.int l1), some (.int l2)] [] (zk B im lm) = zeRun 30 43 [some (.ref 16), some (.int l1), some (.int l2)] [.int 1] (zk B im lm) := ze_go (ok := true) rfl 2 rfl rfl
theorem d_30_42 {B : zeB} {im : Nat → Nat → Int32} {lm : Nat → Nat → Int64} (l1 : Int32) (l2 : Int32)  : zeRun 30 42 [some (.ref 16), some (.int l1), some (.int l2)] [] (zk B im lm) = zeRun 30 43 [some (.ref 16), some (.int l1), some (.int l2)] [.int 0] (zk B im lm) := ze_go (ok := true) rfl 1 rfl rfl
theorem d_30_43 {B : zeB} {im : Nat → Nat → Int32} {lm : Nat → Nat → Int64} (l1 : Int32) (l2 : Int32) (s0 : Int32)  : zeRun 30 43 [some (.ref 16), some (.int l1), some (.int l2)] [.int s0] (zk B im lm) = if s0 = l2 then zeRun 30 47 [some (.ref 16), some (.int l1), some (.int l2)] [] (zk B im lm) else zeRun 30 50 [some (.ref 16), some (.int l1), some (.int l2)] [] (zk B im lm) := ze_if (ok := true) rfl 2 rfl rfl
theorem d_30_47 {B : zeB} {im : Nat → Nat → Int32} {lm : Nat → Nat → Int64} (o0 : Option Value) (o1 : Option Value) (o2 : Option Value)  : zeRun 30 47 [o0, o1, o2] [] (zk B im lm) = some (some (.int (-10000005)), (zk B im lm)) := ze_ret (ok := true) rfl 2 rfl rfl
theorem d_30_50 {B : zeB} {im : Nat → Nat → Int32} {lm : Nat → Nat → Int64} (l1 : Int32) (o2 : Option Value)  : zeRun 30 50 [some (.ref 16), some (.int l1), o2] [] (zk B im lm) = zeBh 30 75 [some (.ref 16), some (.int l1), o2] [] (zeRun 29 0 [some (.int ((im 17 2) ^^^ (1 <<< (l1 &&& 31))))] [] (zk B (zeU2 im 17 2 ((im 17 2) ^^^ (1 <<< (l1 &&& 31)))) lm)) := ze_call (ok := true) rfl 13 rfl rfl rfl
theorem d_30_75 {B : zeB} {im : Nat → Nat → Int32} {lm : Nat → Nat → Int64} (o0 : Option Value) (o1 : Option Value) (o2 : Option Value) (s0 : Int32)  : zeRun 30 75 [o0, o1, o2] [.int s0] (zk B im lm) = some (some (.int s0), (zk B im lm)) := ze_ret (ok := true) rfl 1 rfl rfl
def J_30_43  (l1 : Int32) (l2 : Int32) (s0 : Int32) (im : zI) (lm : zJ) : zR :=
    if s0 = l2 then
      some ((-10000005), im, lm)
    else
      zBd (m_29 ((im 17 2) ^^^ (1 <<< (l1 &&& 31))) (zeU2 im 17 2 ((im 17 2) ^^^ (1 <<< (l1 &&& 31)))) lm) fun v1 im1 lm1 =>
      some (v1, im1, lm1)
theorem J_30_43_ok {B : zeB} (l1 : Int32) (l2 : Int32) (s0 : Int32)  (im : zI) (lm : zJ) : zL B 1 (J_30_43  l1 l2 s0 im lm) (zeRun 30 43 [some (.ref 16), some (.int l1), some (.int l2)] [.int s0] (zk B im lm)) := by
  unfold J_30_43
  refine zL_if (d_30_43 _ _ _) (fun h => ?_) (fun h => ?_)
  · skip
    exact zL_ret (d_30_47 _ _ _)
  · skip
    refine zL_bd (d_30_50 _ _) (m_29_ok _ _ _) fun v1 im1 lm1 => ?_
    exact zL_ret (d_30_75 _ _ _ _)
def m_30 (l1 : Int32) (l2 : Int32) (im : zI) (lm : zJ) : zR :=
    if (if l1 < 0 then 0 else if 25 ≤ l1 then 0 else 1 : Int32) = 0 then
      some ((-10000001), im, lm)
    else
      if (if (im 17 0) = 0 then if (im 17 3) = 0 then 1 else 0 else 0 : Int32) = 0 then
        zBd (m_17 1 im lm) fun v3 im3 lm3 =>
        some (v3, im3, lm3)
      else
        J_30_43   l1 l2 (if ((((im 17 2) >>> (l1 &&& 31)) &&& 1) : Int32) = 1 then 1 else 0) im lm
theorem m_30_ok {B : zeB} (l1 : Int32) (l2 : Int32) (im : zI) (lm : zJ) : zL B 1 (m_30 l1 l2 im lm) (zeRun 30 0 [some (.ref 16), some (.int l1), some (.int l2)] [] (zk B im lm)) := by
  unfold m_30
  refine zL_bdp (e := (if l1 < 0 then 0 else if 25 ≤ l1 then 0 else 1 : Int32)) (d_30_0 _ _) (m_27_ok _ _ _) ?_
  refine zL_if (d_30_4 _ _ _) (fun h => ?_) (fun h => ?_)
  · skip
    exact zL_ret (d_30_7 _ _ _)
  · skip
    refine zL_bdp (e := (if (im 17 0) = 0 then if (im 17 3) = 0 then 1 else 0 else 0 : Int32)) (d_30_10 _ _) (m_16_ok _ _) ?_
    refine zL_if (d_30_14 _ _ _) (fun h => ?_) (fun h => ?_)
    · skip
      refine zL_bd (d_30_17 _ _) (m_17_ok _ _ _) fun v3 im3 lm3 => ?_
      exact zL_ret (d_30_22 _ _ _ _)
    · skip
      refine zL_bdp (e := ((((im 17 2) >>> (l1 &&& 31)) &&& 1) : Int32)) (d_30_23 _ _) (m_28_ok _ _ _ _) ?_
      refine zL_ifm (d_30_34 _ _ _) (fun h => ?_) (fun h => ?_)
      · repeat rw [if_pos h]
        refine zL_eq (d_30_38 _ _) ?_
        exact J_30_43_ok   _ _ _ _ _
      · repeat rw [if_neg h]
        refine zL_eq (d_30_42 _ _) ?_
        exact J_30_43_ok   _ _ _ _ _
/-! X7_setWagerClue -/
theorem d_31_0 {B : zeB} {im : Nat → Nat → Int32} {lm : Nat → Nat → Int64} (l1 : Int32) (l2 : Int32)  : zeRun 31 0 [some (.ref 16), some (.int l1), some (.int l2)] [] (zk B im lm) = zeBh 31 11 [some (.ref 16), some (.int l1), some (.int l2)] [] (zeRun 15 0 [some (.ref 42), some (.ref 17)] [] (zk B im lm)) := ze_call (ok := true) rfl 5 rfl rfl rfl
theorem d_31_11 {B : zeB} {im : Nat → Nat → Int32} {lm : Nat → Nat → Int64} (l1 : Int32) (l2 : Int32)  : zeRun 31 11 [some (.ref 16), some (.int l1), some (.int l2)] [] (zk B im lm) = zeBh 31 18 [some (.ref 16), some (.int l1), some (.int l2)] [.ref 16] (zeRun 30 0 [some (.ref 16), some (.int l1), some (.int l2)] [] (zk B im lm)) := ze_call (ok := true) rfl 5 rfl rfl rfl
theorem d_31_18 {B : zeB} {im : Nat → Nat → Int32} {lm : Nat → Nat → Int64} (o0 : Option Value) (o1 : Option Value) (o2 : Option Value) (s1 : Int32)  : zeRun 31 18 [o0, o1, o2] [.int s1, .ref 16] (zk B im lm) = zeBh 31 21 [o0, o1, o2] [] (zeRun 21 0 [some (.ref 16), some (.int s1)] [] (zk B im lm)) := ze_call (ok := true) rfl 1 rfl rfl rfl
theorem d_31_21 {B : zeB} {im : Nat → Nat → Int32} {lm : Nat → Nat → Int64} (o0 : Option Value) (o1 : Option Value) (o2 : Option Value) (s0 : Int32)  : zeRun 31 21 [o0, o1, o2] [.int s0] (zk B im lm) = some (some (.int s0), (zk B im lm)) := ze_ret (ok := true) rfl 1 rfl rfl
def m_31 (l1 : Int32) (l2 : Int32) (im : zI) (lm : zJ) : zR :=
    zBd (m_15  im lm) fun _ im1 lm1 =>
    zBd (m_30 l1 l2 im1 lm1) fun v2 im2 lm2 =>
    zBd (m_21 v2 im2 lm2) fun v3 im3 lm3 =>
    some (v3, im3, lm3)
theorem m_31_ok {B : zeB} (l1 : Int32) (l2 : Int32) (im : zI) (lm : zJ) : zL B 1 (m_31 l1 l2 im lm) (zeRun 31 0 [some (.ref 16), some (.int l1), some (.int l2)] [] (zk B im lm)) := by
  unfold m_31
  refine zL_bdv (d_31_0 _ _) (m_15_ok _ _) fun _ im1 lm1 => ?_
  refine zL_bd (d_31_11 _ _) (m_30_ok _ _ _ _) fun v2 im2 lm2 => ?_
  refine zL_bd (d_31_18 _ _ _ _) (m_21_ok _ _ _) fun v3 im3 lm3 => ?_
  exact zL_ret (d_31_21 _ _ _ _)
/-! X8_in -/
theorem d_32_0 {B : zeB} {im : Nat → Nat → Int32} {lm : Nat → Nat → Int64} (l0 : Int32) (l1 : Int32) (l2 : Int32)  : zeRun 32 0 [some (.int l0), some (.int l1), some (.int l2)] [] (zk B im lm) = if l0 < l1 then zeRun 32 14 [some (.int l0), some (.int l1), some (.int l2)] [] (zk B im lm) else zeRun 32 5 [some (.int l0), some (.int l1), some (.int l2)] [] (zk B im lm) := ze_if (ok := true) rfl 3 rfl rfl
theorem d_32_14 {B : zeB} {im : Nat → Nat → Int32} {lm : Nat → Nat → Int64} (o0 : Option Value) (o1 : Option Value) (o2 : Option Value)  : zeRun 32 14 [o0, o1, o2] [] (zk B im lm) = some (some (.int 0), (zk B im lm)) := ze_ret (ok := true) rfl 2 rfl rfl
theorem d_32_5 {B : zeB} {im : Nat → Nat → Int32} {lm : Nat → Nat → Int64} (l0 : Int32) (o1 : Option Value) (l2 : Int32)  : zeRun 32 5 [some (.int l0), o1, some (.int l2)] [] (zk B im lm) = if l2 < l0 then zeRun 32 14 [some (.int l0), o1, some (.int l2)] [] (zk B im lm) else zeRun 32 10 [some (.int l0), o1, some (.int l2)] [] (zk B im lm) := ze_if (ok := true) rfl 3 rfl rfl
theorem d_32_10 {B : zeB} {im : Nat → Nat → Int32} {lm : Nat → Nat → Int64} (o0 : Option Value) (o1 : Option Value) (o2 : Option Value)  : zeRun 32 10 [o0, o1, o2] [] (zk B im lm) = some (some (.int 1), (zk B im lm)) := ze_ret (ok := true) rfl 3 rfl rfl
def m_32 (l0 : Int32) (l1 : Int32) (l2 : Int32) (im : zI) (lm : zJ) : zR :=
    some (if l0 < l1 then 0 else if l2 < l0 then 0 else 1, im, lm)
theorem m_32_ok {B : zeB} (l0 : Int32) (l1 : Int32) (l2 : Int32) (im : zI) (lm : zJ) : zL B 1 (m_32 l0 l1 l2 im lm) (zeRun 32 0 [some (.int l0), some (.int l1), some (.int l2)] [] (zk B im lm)) := by
  unfold m_32
  refine zL_ifm (d_32_0 _ _ _) (fun h => ?_) (fun h => ?_)
  · repeat rw [if_pos h]
    exact zL_ret (d_32_14 _ _ _)
  · repeat rw [if_neg h]
    refine zL_ifm (d_32_5 _ _ _) (fun h => ?_) (fun h => ?_)
    · repeat rw [if_pos h]
      exact zL_ret (d_32_14 _ _ _)
    · repeat rw [if_neg h]
      exact zL_ret (d_32_10 _ _ _)
/-! X8_bits -/
theorem d_33_0 {B : zeB} {im : Nat → Nat → Int32} {lm : Nat → Nat → Int64} (l0 : Int32) (o1 : Option Value) (o2 : Option Value)  : zeRun 33 0 [some (.int l0), o1, o2] [] (zk B im lm) = zeRun 33 4 [some (.int l0), some (.int 0), some (.int 0)] [] (zk B im lm) := ze_go (ok := true) rfl 4 rfl rfl
theorem d_33_4 {B : zeB} {im : Nat → Nat → Int32} {lm : Nat → Nat → Int64} (l0 : Int32) (l1 : Int32) (l2 : Int32)  : zeRun 33 4 [some (.int l0), some (.int l1), some (.int l2)] [] (zk B im lm) = if 25 ≤ l2 then zeRun 33 24 [some (.int l0), some (.int l1), some (.int l2)] [] (zk B im lm) else zeRun 33 10 [some (.int l0), some (.int l1), some (.int l2)] [] (zk B im lm) := ze_if (ok := true) rfl 3 rfl rfl
theorem d_33_24 {B : zeB} {im : Nat → Nat → Int32} {lm : Nat → Nat → Int64} (o0 : Option Value) (l1 : Int32) (o2 : Option Value)  : zeRun 33 24 [o0, some (.int l1), o2] [] (zk B im lm) = some (some (.int l1), (zk B im lm)) := ze_ret (ok := true) rfl 2 rfl rfl
theorem d_33_10 {B : zeB} {im : Nat → Nat → Int32} {lm : Nat → Nat → Int64} (l0 : Int32) (l1 : Int32) (l2 : Int32)  : zeRun 33 10 [some (.int l0), some (.int l1), some (.int l2)] [] (zk B im lm) = zeRun 33 4 [some (.int l0), some (.int (l1 + ((l0 >>> (l2 &&& 31)) &&& 1))), some (.int (l2 + 1))] [] (zk B im lm) := ze_go (ok := true) rfl 10 rfl rfl
def F_33_4  : Nat → Int32 → Int32 → Int32 → zI → zJ → zR
  | 0, _, _, _, _, _ => none
  | n + 1, l0, l1, l2, im, lm =>
    if 25 ≤ l2 then
      some (l1, im, lm)
    else
      F_33_4  n l0 (l1 + ((l0 >>> (l2 &&& 31)) &&& 1)) (l2 + 1) im lm
theorem F_33_4_ok {B : zeB} : ∀ (n : Nat) (l0 : Int32) (l1 : Int32) (l2 : Int32)  (im : zI) (lm : zJ), zL B 1 (F_33_4  n l0 l1 l2 im lm) (zeRun 33 4 [some (.int l0), some (.int l1), some (.int l2)] [] (zk B im lm)) := by
  intro n
  induction n with
  | zero => intros; exact zL_none
  | succ n ih =>
    intro l0 l1 l2 im lm
    unfold F_33_4
    refine zL_if (d_33_4 _ _ _) (fun h => ?_) (fun h => ?_)
    · skip
      exact zL_ret (d_33_24 _ _ _)
    · skip
      refine zL_eq (d_33_10 _ _ _) ?_
      exact ih _ _ _ _ _
def m_33 (l0 : Int32) (im : zI) (lm : zJ) : zR :=
    F_33_4  2000 l0 0 0 im lm
theorem m_33_ok {B : zeB} (l0 : Int32) (im : zI) (lm : zJ) : zL B 1 (m_33 l0 im lm) (zeRun 33 0 [some (.int l0), none, none] [] (zk B im lm)) := by
  unfold m_33
  refine zL_eq (d_33_0 _ _ _) ?_
  exact F_33_4_ok  _ _ _ _ _ _
