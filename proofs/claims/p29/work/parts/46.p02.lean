/-! pure: X6_copyFrom_17_44, X6_copyFrom_17_59, X6_copyFrom_17_74, X6_copyFrom_17_89, X6_copyFrom_17_104, X6_copyFrom_17_119, X6_copyFrom_17_135, X6_copyFrom_17_150, X4_isSeat, X7_isClue, X4_solverOf, X4_limited, X4_noteRight, X4_replayEntry, X4_run, X7_load_44, X7_load_59, X7_load_74, X7_load_89 -/
/-! X6_copyFrom_17_44 -/
theorem d_14_17_44_0 {B : zeB} {im : Nat → Nat → Int32} {lm : Nat → Nat → Int64}   : zeRun 14 0 [some (.ref 17), some (.ref 44)] [] (zk B im lm) = zeBh 14 60 [some (.ref 17), some (.ref 44)] [] (zeRun 11 0 [some (.ref 19), some (.ref 46)] [] (zk B (zeCpy (zeU2 (zeU2 (zeU2 (zeU2 im 17 0 (im 44 0)) 17 1 (im 44 1)) 17 2 (im 44 2)) 17 3 (im 44 3)) 45 0 18 0 3) lm)) := ze_call (ok := true) rfl 30 rfl rfl rfl
theorem d_14_17_44_60 {B : zeB} {im : Nat → Nat → Int32} {lm : Nat → Nat → Int64}   : zeRun 14 60 [some (.ref 17), some (.ref 44)] [] (zk B im lm) = zeBh 14 71 [some (.ref 17), some (.ref 44)] [] (zeRun 12 0 [some (.ref 23), some (.ref 50)] [] (zk B im lm)) := ze_call (ok := true) rfl 5 rfl rfl rfl
theorem d_14_17_44_71 {B : zeB} {im : Nat → Nat → Int32} {lm : Nat → Nat → Int64}   : zeRun 14 71 [some (.ref 17), some (.ref 44)] [] (zk B im lm) = zeBh 14 82 [some (.ref 17), some (.ref 44)] [] (zeRun 13 0 [some (.ref 26), some (.ref 53)] [] (zk B im lm)) := ze_call (ok := true) rfl 5 rfl rfl rfl
theorem d_14_17_44_82 {B : zeB} {im : Nat → Nat → Int32} {lm : Nat → Nat → Int64} (o0 : Option Value) (o1 : Option Value)  : zeRun 14 82 [o0, o1] [] (zk B im lm) = some (none, (zk B im lm)) := ze_ret (ok := true) rfl 1 rfl rfl
def m_14_17_44  (im : zI) (lm : zJ) : zR :=
    zBd (m_11_19_46  (zeCpy (zeU2 (zeU2 (zeU2 (zeU2 im 17 0 (im 44 0)) 17 1 (im 44 1)) 17 2 (im 44 2)) 17 3 (im 44 3)) 45 0 18 0 3) lm) fun _ im1 lm1 =>
    zBd (m_12_23_50  im1 lm1) fun _ im2 lm2 =>
    zBd (m_13_26_53  im2 lm2) fun _ im3 lm3 =>
    some (0, im3, lm3)
theorem m_14_17_44_ok {B : zeB}  (im : zI) (lm : zJ) : zL B 0 (m_14_17_44  im lm) (zeRun 14 0 [some (.ref 17), some (.ref 44)] [] (zk B im lm)) := by
  unfold m_14_17_44
  refine zL_bdv d_14_17_44_0 (m_11_19_46_ok _ _) fun _ im1 lm1 => ?_
  refine zL_bdv d_14_17_44_60 (m_12_23_50_ok _ _) fun _ im2 lm2 => ?_
  refine zL_bdv d_14_17_44_71 (m_13_26_53_ok _ _) fun _ im3 lm3 => ?_
  exact zL_retv (d_14_17_44_82 _ _)
/-! X6_copyFrom_17_59 -/
theorem d_14_17_59_0 {B : zeB} {im : Nat → Nat → Int32} {lm : Nat → Nat → Int64}   : zeRun 14 0 [some (.ref 17), some (.ref 59)] [] (zk B im lm) = zeBh 14 60 [some (.ref 17), some (.ref 59)] [] (zeRun 11 0 [some (.ref 19), some (.ref 61)] [] (zk B (zeCpy (zeU2 (zeU2 (zeU2 (zeU2 im 17 0 (im 59 0)) 17 1 (im 59 1)) 17 2 (im 59 2)) 17 3 (im 59 3)) 60 0 18 0 3) lm)) := ze_call (ok := true) rfl 30 rfl rfl rfl
theorem d_14_17_59_60 {B : zeB} {im : Nat → Nat → Int32} {lm : Nat → Nat → Int64}   : zeRun 14 60 [some (.ref 17), some (.ref 59)] [] (zk B im lm) = zeBh 14 71 [some (.ref 17), some (.ref 59)] [] (zeRun 12 0 [some (.ref 23), some (.ref 65)] [] (zk B im lm)) := ze_call (ok := true) rfl 5 rfl rfl rfl
theorem d_14_17_59_71 {B : zeB} {im : Nat → Nat → Int32} {lm : Nat → Nat → Int64}   : zeRun 14 71 [some (.ref 17), some (.ref 59)] [] (zk B im lm) = zeBh 14 82 [some (.ref 17), some (.ref 59)] [] (zeRun 13 0 [some (.ref 26), some (.ref 68)] [] (zk B im lm)) := ze_call (ok := true) rfl 5 rfl rfl rfl
theorem d_14_17_59_82 {B : zeB} {im : Nat → Nat → Int32} {lm : Nat → Nat → Int64} (o0 : Option Value) (o1 : Option Value)  : zeRun 14 82 [o0, o1] [] (zk B im lm) = some (none, (zk B im lm)) := ze_ret (ok := true) rfl 1 rfl rfl
def m_14_17_59  (im : zI) (lm : zJ) : zR :=
    zBd (m_11_19_61  (zeCpy (zeU2 (zeU2 (zeU2 (zeU2 im 17 0 (im 59 0)) 17 1 (im 59 1)) 17 2 (im 59 2)) 17 3 (im 59 3)) 60 0 18 0 3) lm) fun _ im1 lm1 =>
    zBd (m_12_23_65  im1 lm1) fun _ im2 lm2 =>
    zBd (m_13_26_68  im2 lm2) fun _ im3 lm3 =>
    some (0, im3, lm3)
theorem m_14_17_59_ok {B : zeB}  (im : zI) (lm : zJ) : zL B 0 (m_14_17_59  im lm) (zeRun 14 0 [some (.ref 17), some (.ref 59)] [] (zk B im lm)) := by
  unfold m_14_17_59
  refine zL_bdv d_14_17_59_0 (m_11_19_61_ok _ _) fun _ im1 lm1 => ?_
  refine zL_bdv d_14_17_59_60 (m_12_23_65_ok _ _) fun _ im2 lm2 => ?_
  refine zL_bdv d_14_17_59_71 (m_13_26_68_ok _ _) fun _ im3 lm3 => ?_
  exact zL_retv (d_14_17_59_82 _ _)
/-! X6_copyFrom_17_74 -/
theorem d_14_17_74_0 {B : zeB} {im : Nat → Nat → Int32} {lm : Nat → Nat → Int64}   : zeRun 14 0 [some (.ref 17), some (.ref 74)] [] (zk B im lm) = zeBh 14 60 [some (.ref 17), some (.ref 74)] [] (zeRun 11 0 [some (.ref 19), some (.ref 76)] [] (zk B (zeCpy (zeU2 (zeU2 (zeU2 (zeU2 im 17 0 (im 74 0)) 17 1 (im 74 1)) 17 2 (im 74 2)) 17 3 (im 74 3)) 75 0 18 0 3) lm)) := ze_call (ok := true) rfl 30 rfl rfl rfl
theorem d_14_17_74_60 {B : zeB} {im : Nat → Nat → Int32} {lm : Nat → Nat → Int64}   : zeRun 14 60 [some (.ref 17), some (.ref 74)] [] (zk B im lm) = zeBh 14 71 [some (.ref 17), some (.ref 74)] [] (zeRun 12 0 [some (.ref 23), some (.ref 80)] [] (zk B im lm)) := ze_call (ok := true) rfl 5 rfl rfl rfl
theorem d_14_17_74_71 {B : zeB} {im : Nat → Nat → Int32} {lm : Nat → Nat → Int64}   : zeRun 14 71 [some (.ref 17), some (.ref 74)] [] (zk B im lm) = zeBh 14 82 [some (.ref 17), some (.ref 74)] [] (zeRun 13 0 [some (.ref 26), some (.ref 83)] [] (zk B im lm)) := ze_call (ok := true) rfl 5 rfl rfl rfl
theorem d_14_17_74_82 {B : zeB} {im : Nat → Nat → Int32} {lm : Nat → Nat → Int64} (o0 : Option Value) (o1 : Option Value)  : zeRun 14 82 [o0, o1] [] (zk B im lm) = some (none, (zk B im lm)) := ze_ret (ok := true) rfl 1 rfl rfl
def m_14_17_74  (im : zI) (lm : zJ) : zR :=
    zBd (m_11_19_76  (zeCpy (zeU2 (zeU2 (zeU2 (zeU2 im 17 0 (im 74 0)) 17 1 (im 74 1)) 17 2 (im 74 2)) 17 3 (im 74 3)) 75 0 18 0 3) lm) fun _ im1 lm1 =>
    zBd (m_12_23_80  im1 lm1) fun _ im2 lm2 =>
    zBd (m_13_26_83  im2 lm2) fun _ im3 lm3 =>
    some (0, im3, lm3)
theorem m_14_17_74_ok {B : zeB}  (im : zI) (lm : zJ) : zL B 0 (m_14_17_74  im lm) (zeRun 14 0 [some (.ref 17), some (.ref 74)] [] (zk B im lm)) := by
  unfold m_14_17_74
  refine zL_bdv d_14_17_74_0 (m_11_19_76_ok _ _) fun _ im1 lm1 => ?_
  refine zL_bdv d_14_17_74_60 (m_12_23_80_ok _ _) fun _ im2 lm2 => ?_
  refine zL_bdv d_14_17_74_71 (m_13_26_83_ok _ _) fun _ im3 lm3 => ?_
  exact zL_retv (d_14_17_74_82 _ _)
/-! X6_copyFrom_17_89 -/
theorem d_14_17_89_0 {B : zeB} {im : Nat → Nat → Int32} {lm : Nat → Nat → Int64}   : zeRun 14 0 [some (.ref 17), some (.ref 89)] [] (zk B im lm) = zeBh 14 60 [some (.ref 17), some (.ref 89)] [] (zeRun 11 0 [some (.ref 19), some (.ref 91)] [] (zk B (zeCpy (zeU2 (zeU2 (zeU2 (zeU2 im 17 0 (im 89 0)) 17 1 (im 89 1)) 17 2 (im 89 2)) 17 3 (im 89 3)) 90 0 18 0 3) lm)) := ze_call (ok := true) rfl 30 rfl rfl rfl
theorem d_14_17_89_60 {B : zeB} {im : Nat → Nat → Int32} {lm : Nat → Nat → Int64}   : zeRun 14 60 [some (.ref 17), some (.ref 89)] [] (zk B im lm) = zeBh 14 71 [some (.ref 17), some (.ref 89)] [] (zeRun 12 0 [some (.ref 23), some (.ref 95)] [] (zk B im lm)) := ze_call (ok := true) rfl 5 rfl rfl rfl
theorem d_14_17_89_71 {B : zeB} {im : Nat → Nat → Int32} {lm : Nat → Nat → Int64}   : zeRun 14 71 [some (.ref 17), some (.ref 89)] [] (zk B im lm) = zeBh 14 82 [some (.ref 17), some (.ref 89)] [] (zeRun 13 0 [some (.ref 26), some (.ref 98)] [] (zk B im lm)) := ze_call (ok := true) rfl 5 rfl rfl rfl
theorem d_14_17_89_82 {B : zeB} {im : Nat → Nat → Int32} {lm : Nat → Nat → Int64} (o0 : Option Value) (o1 : Option Value)  : zeRun 14 82 [o0, o1] [] (zk B im lm) = some (none, (zk B im lm)) := ze_ret (ok := true) rfl 1 rfl rfl
def m_14_17_89  (im : zI) (lm : zJ) : zR :=
    zBd (m_11_19_91  (zeCpy (zeU2 (zeU2 (zeU2 (zeU2 im 17 0 (im 89 0)) 17 1 (im 89 1)) 17 2 (im 89 2)) 17 3 (im 89 3)) 90 0 18 0 3) lm) fun _ im1 lm1 =>
    zBd (m_12_23_95  im1 lm1) fun _ im2 lm2 =>
    zBd (m_13_26_98  im2 lm2) fun _ im3 lm3 =>
    some (0, im3, lm3)
theorem m_14_17_89_ok {B : zeB}  (im : zI) (lm : zJ) : zL B 0 (m_14_17_89  im lm) (zeRun 14 0 [some (.ref 17), some (.ref 89)] [] (zk B im lm)) := by
  unfold m_14_17_89
  refine zL_bdv d_14_17_89_0 (m_11_19_91_ok _ _) fun _ im1 lm1 => ?_
  refine zL_bdv d_14_17_89_60 (m_12_23_95_ok _ _) fun _ im2 lm2 => ?_
  refine zL_bdv d_14_17_89_71 (m_13_26_98_ok _ _) fun _ im3 lm3 => ?_
  exact zL_retv (d_14_17_89_82 _ _)
/-! X6_copyFrom_17_104 -/
theorem d_14_17_104_0 {B : zeB} {im : Nat → Nat → Int32} {lm : Nat → Nat → Int64}   : zeRun 14 0 [some (.ref 17), some (.ref 104)] [] (zk B im lm) = zeBh 14 60 [some (.ref 17), some (.ref 104)] [] (zeRun 11 0 [some (.ref 19), some (.ref 106)] [] (zk B (zeCpy (zeU2 (zeU2 (zeU2 (zeU2 im 17 0 (im 104 0)) 17 1 (im 104 1)) 17 2 (im 104 2)) 17 3 (im 104 3)) 105 0 18 0 3) lm)) := ze_call (ok := true) rfl 30 rfl rfl rfl
theorem d_14_17_104_60 {B : zeB} {im : Nat → Nat → Int32} {lm : Nat → Nat → Int64}   : zeRun 14 60 [some (.ref 17), some (.ref 104)] [] (zk B im lm) = zeBh 14 71 [some (.ref 17), some (.ref 104)] [] (zeRun 12 0 [some (.ref 23), some (.ref 110)] [] (zk B im lm)) := ze_call (ok := true) rfl 5 rfl rfl rfl
theorem d_14_17_104_71 {B : zeB} {im : Nat → Nat → Int32} {lm : Nat → Nat → Int64}   : zeRun 14 71 [some (.ref 17), some (.ref 104)] [] (zk B im lm) = zeBh 14 82 [some (.ref 17), some (.ref 104)] [] (zeRun 13 0 [some (.ref 26), some (.ref 113)] [] (zk B im lm)) := ze_call (ok := true) rfl 5 rfl rfl rfl
theorem d_14_17_104_82 {B : zeB} {im : Nat → Nat → Int32} {lm : Nat → Nat → Int64} (o0 : Option Value) (o1 : Option Value)  : zeRun 14 82 [o0, o1] [] (zk B im lm) = some (none, (zk B im lm)) := ze_ret (ok := true) rfl 1 rfl rfl
def m_14_17_104  (im : zI) (lm : zJ) : zR :=
    zBd (m_11_19_106  (zeCpy (zeU2 (zeU2 (zeU2 (zeU2 im 17 0 (im 104 0)) 17 1 (im 104 1)) 17 2 (im 104 2)) 17 3 (im 104 3)) 105 0 18 0 3) lm) fun _ im1 lm1 =>
    zBd (m_12_23_110  im1 lm1) fun _ im2 lm2 =>
    zBd (m_13_26_113  im2 lm2) fun _ im3 lm3 =>
    some (0, im3, lm3)
theorem m_14_17_104_ok {B : zeB}  (im : zI) (lm : zJ) : zL B 0 (m_14_17_104  im lm) (zeRun 14 0 [some (.ref 17), some (.ref 104)] [] (zk B im lm)) := by
  unfold m_14_17_104
  refine zL_bdv d_14_17_104_0 (m_11_19_106_ok _ _) fun _ im1 lm1 => ?_
  refine zL_bdv d_14_17_104_60 (m_12_23_110_ok _ _) fun _ im2 lm2 => ?_
  refine zL_bdv d_14_17_104_71 (m_13_26_113_ok _ _) fun _ im3 lm3 => ?_
  exact zL_retv (d_14_17_104_82 _ _)
/-! X6_copyFrom_17_119 -/
theorem d_14_17_119_0 {B : zeB} {im : Nat → Nat → Int32} {lm : Nat → Nat → Int64}   : zeRun 14 0 [some (.ref 17), some (.ref 119)] [] (zk B im lm) = zeBh 14 60 [some (.ref 17), some (.ref 119)] [] (zeRun 11 0 [some (.ref 19), some (.ref 121)] [] (zk B (zeCpy (zeU2 (zeU2 (zeU2 (zeU2 im 17 0 (im 119 0)) 17 1 (im 119 1)) 17 2 (im 119 2)) 17 3 (im 119 3)) 120 0 18 0 3) lm)) := ze_call (ok := true) rfl 30 rfl rfl rfl
theorem d_14_17_119_60 {B : zeB} {im : Nat → Nat → Int32} {lm : Nat → Nat → Int64}   : zeRun 14 60 [some (.ref 17), some (.ref 119)] [] (zk B im lm) = zeBh 14 71 [some (.ref 17), some (.ref 119)] [] (zeRun 12 0 [some (.ref 23), some (.ref 125)] [] (zk B im lm)) := ze_call (ok := true) rfl 5 rfl rfl rfl
theorem d_14_17_119_71 {B : zeB} {im : Nat → Nat → Int32} {lm : Nat → Nat → Int64}   : zeRun 14 71 [some (.ref 17), some (.ref 119)] [] (zk B im lm) = zeBh 14 82 [some (.ref 17), some (.ref 119)] [] (zeRun 13 0 [some (.ref 26), some (.ref 128)] [] (zk B im lm)) := ze_call (ok := true) rfl 5 rfl rfl rfl
theorem d_14_17_119_82 {B : zeB} {im : Nat → Nat → Int32} {lm : Nat → Nat → Int64} (o0 : Option Value) (o1 : Option Value)  : zeRun 14 82 [o0, o1] [] (zk B im lm) = some (none, (zk B im lm)) := ze_ret (ok := true) rfl 1 rfl rfl
def m_14_17_119  (im : zI) (lm : zJ) : zR :=
    zBd (m_11_19_121  (zeCpy (zeU2 (zeU2 (zeU2 (zeU2 im 17 0 (im 119 0)) 17 1 (im 119 1)) 17 2 (im 119 2)) 17 3 (im 119 3)) 120 0 18 0 3) lm) fun _ im1 lm1 =>
    zBd (m_12_23_125  im1 lm1) fun _ im2 lm2 =>
    zBd (m_13_26_128  im2 lm2) fun _ im3 lm3 =>
    some (0, im3, lm3)
theorem m_14_17_119_ok {B : zeB}  (im : zI) (lm : zJ) : zL B 0 (m_14_17_119  im lm) (zeRun 14 0 [some (.ref 17), some (.ref 119)] [] (zk B im lm)) := by
  unfold m_14_17_119
  refine zL_bdv d_14_17_119_0 (m_11_19_121_ok _ _) fun _ im1 lm1 => ?_
  refine zL_bdv d_14_17_119_60 (m_12_23_125_ok _ _) fun _ im2 lm2 => ?_
  refine zL_bdv d_14_17_119_71 (m_13_26_128_ok _ _) fun _ im3 lm3 => ?_
  exact zL_retv (d_14_17_119_82 _ _)
/-! X6_copyFrom_17_135 -/
theorem d_14_17_135_0 {B : zeB} {im : Nat → Nat → Int32} {lm : Nat → Nat → Int64}   : zeRun 14 0 [some (.ref 17), some (.ref 135)] [] (zk B im lm) = zeBh 14 60 [some (.ref 17), some (.ref 135)] [] (zeRun 11 0 [some (.ref 19), some (.ref 137)] [] (zk B (zeCpy (zeU2 (zeU2 (zeU2 (zeU2 im 17 0 (im 135 0)) 17 1 (im 135 1)) 17 2 (im 135 2)) 17 3 (im 135 3)) 136 0 18 0 3) lm)) := ze_call (ok := true) rfl 30 rfl rfl rfl
theorem d_14_17_135_60 {B : zeB} {im : Nat → Nat → Int32} {lm : Nat → Nat → Int64}   : zeRun 14 60 [some (.ref 17), some (.ref 135)] [] (zk B im lm) = zeBh 14 71 [some (.ref 17), some (.ref 135)] [] (zeRun 12 0 [some (.ref 23), some (.ref 141)] [] (zk B im lm)) := ze_call (ok := true) rfl 5 rfl rfl rfl
theorem d_14_17_135_71 {B : zeB} {im : Nat → Nat → Int32} {lm : Nat → Nat → Int64}   : zeRun 14 71 [some (.ref 17), some (.ref 135)] [] (zk B im lm) = zeBh 14 82 [some (.ref 17), some (.ref 135)] [] (zeRun 13 0 [some (.ref 26), some (.ref 144)] [] (zk B im lm)) := ze_call (ok := true) rfl 5 rfl rfl rfl
theorem d_14_17_135_82 {B : zeB} {im : Nat → Nat → Int32} {lm : Nat → Nat → Int64} (o0 : Option Value) (o1 : Option Value)  : zeRun 14 82 [o0, o1] [] (zk B im lm) = some (none, (zk B im lm)) := ze_ret (ok := true) rfl 1 rfl rfl
def m_14_17_135  (im : zI) (lm : zJ) : zR :=
    zBd (m_11_19_137  (zeCpy (zeU2 (zeU2 (zeU2 (zeU2 im 17 0 (im 135 0)) 17 1 (im 135 1)) 17 2 (im 135 2)) 17 3 (im 135 3)) 136 0 18 0 3) lm) fun _ im1 lm1 =>
    zBd (m_12_23_141  im1 lm1) fun _ im2 lm2 =>
    zBd (m_13_26_144  im2 lm2) fun _ im3 lm3 =>
    some (0, im3, lm3)
theorem m_14_17_135_ok {B : zeB}  (im : zI) (lm : zJ) : zL B 0 (m_14_17_135  im lm) (zeRun 14 0 [some (.ref 17), some (.ref 135)] [] (zk B im lm)) := by
  unfold m_14_17_135
  refine zL_bdv d_14_17_135_0 (m_11_19_137_ok _ _) fun _ im1 lm1 => ?_
  refine zL_bdv d_14_17_135_60 (m_12_23_141_ok _ _) fun _ im2 lm2 => ?_
  refine zL_bdv d_14_17_135_71 (m_13_26_144_ok _ _) fun _ im3 lm3 => ?_
  exact zL_retv (d_14_17_135_82 _ _)
/-! X6_copyFrom_17_150 -/
theorem d_14_17_150_0 {B : zeB} {im : Nat → Nat → Int32} {lm : Nat → Nat → Int64}   : zeRun 14 0 [some (.ref 17), some (.ref 150)] [] (zk B im lm) = zeBh 14 60 [some (.ref 17), some (.ref 150)] [] (zeRun 11 0 [some (.ref 19), some (.ref 152)] [] (zk B (zeCpy (zeU2 (zeU2 (zeU2 (zeU2 im 17 0 (im 150 0)) 17 1 (im 150 1)) 17 2 (im 150 2)) 17 3 (im 150 3)) 151 0 18 0 3) lm)) := ze_call (ok := true) rfl 30 rfl rfl rfl
theorem d_14_17_150_60 {B : zeB} {im : Nat → Nat → Int32} {lm : Nat → Nat → Int64}   : zeRun 14 60 [some (.ref 17), some (.ref 150)] [] (zk B im lm) = zeBh 14 71 [some (.ref 17), some (.ref 150)] [] (zeRun 12 0 [some (.ref 23), some (.ref 156)] [] (zk B im lm)) := ze_call (ok := true) rfl 5 rfl rfl rfl
theorem d_14_17_150_71 {B : zeB} {im : Nat → Nat → Int32} {lm : Nat → Nat → Int64}   : zeRun 14 71 [some (.ref 17), some (.ref 150)] [] (zk B im lm) = zeBh 14 82 [some (.ref 17), some (.ref 150)] [] (zeRun 13 0 [some (.ref 26), some (.ref 159)] [] (zk B im lm)) := ze_call (ok := true) rfl 5 rfl rfl rfl
theorem d_14_17_150_82 {B : zeB} {im : Nat → Nat → Int32} {lm : Nat → Nat → Int64} (o0 : Option Value) (o1 : Option Value)  : zeRun 14 82 [o0, o1] [] (zk B im lm) = some (none, (zk B im lm)) := ze_ret (ok := true) rfl 1 rfl rfl
def m_14_17_150  (im : zI) (lm : zJ) : zR :=
    zBd (m_11_19_152  (zeCpy (zeU2 (zeU2 (zeU2 (zeU2 im 17 0 (im 150 0)) 17 1 (im 150 1)) 17 2 (im 150 2)) 17 3 (im 150 3)) 151 0 18 0 3) lm) fun _ im1 lm1 =>
    zBd (m_12_23_156  im1 lm1) fun _ im2 lm2 =>
    zBd (m_13_26_159  im2 lm2) fun _ im3 lm3 =>
    some (0, im3, lm3)
theorem m_14_17_150_ok {B : zeB}  (im : zI) (lm : zJ) : zL B 0 (m_14_17_150  im lm) (zeRun 14 0 [some (.ref 17), some (.ref 150)] [] (zk B im lm)) := by
  unfold m_14_17_150
  refine zL_bdv d_14_17_150_0 (m_11_19_152_ok _ _) fun _ im1 lm1 => ?_
  refine zL_bdv d_14_17_150_60 (m_12_23_156_ok _ _) fun _ im2 lm2 => ?_
  refine zL_bdv d_14_17_150_71 (m_13_26_159_ok _ _) fun _ im3 lm3 => ?_
  exact zL_retv (d_14_17_150_82 _ _)
/-! X4_isSeat -/
theorem d_79_0 {B : zeB} {im : Nat → Nat → Int32} {lm : Nat → Nat → Int64} (l0 : Int32)  : zeRun 79 0 [some (.int l0)] [] (zk B im lm) = if l0 < 0 then zeRun 79 14 [some (.int l0)] [] (zk B im lm) else zeRun 79 4 [some (.int l0)] [] (zk B im lm) := ze_if (ok := true) rfl 2 rfl rfl
theorem d_79_14 {B : zeB} {im : Nat → Nat → Int32} {lm : Nat → Nat → Int64} (o0 : Option Value)  : zeRun 79 14 [o0] [] (zk B im lm) = some (some (.int 0), (zk B im lm)) := ze_ret (ok := true) rfl 2 rfl rfl
theorem d_79_4 {B : zeB} {im : Nat → Nat → Int32} {lm : Nat → Nat → Int64} (l0 : Int32)  : zeRun 79 4 [some (.int l0)] [] (zk B im lm) = if 6 ≤ l0 then zeRun 79 14 [some (.int l0)] [] (zk B im lm) else zeRun 79 10 [some (.int l0)] [] (zk B im lm) := ze_if (ok := true) rfl 3 rfl rfl
theorem d_79_10 {B : zeB} {im : Nat → Nat → Int32} {lm : Nat → Nat → Int64} (o0 : Option Value)  : zeRun 79 10 [o0] [] (zk B im lm) = some (some (.int 1), (zk B im lm)) := ze_ret (ok := true) rfl 3 rfl rfl
def m_79 (l0 : Int32) (im : zI) (lm : zJ) : zR :=
    some (if l0 < 0 then 0 else if 6 ≤ l0 then 0 else 1, im, lm)
theorem m_79_ok {B : zeB} (l0 : Int32) (im : zI) (lm : zJ) : zL B 1 (m_79 l0 im lm) (zeRun 79 0 [some (.int l0)] [] (zk B im lm)) := by
  unfold m_79
  refine zL_ifm (d_79_0 _) (fun h => ?_) (fun h => ?_)
  · repeat rw [if_pos h]
    exact zL_ret (d_79_14 _)
  · repeat rw [if_neg h]
    refine zL_ifm (d_79_4 _) (fun h => ?_) (fun h => ?_)
    · repeat rw [if_pos h]
      exact zL_ret (d_79_14 _)
    · repeat rw [if_neg h]
      exact zL_ret (d_79_10 _)
/-! X7_isClue -/
theorem d_27_0 {B : zeB} {im : Nat → Nat → Int32} {lm : Nat → Nat → Int64} (l0 : Int32)  : zeRun 27 0 [some (.int l0)] [] (zk B im lm) = if l0 < 0 then zeRun 27 14 [some (.int l0)] [] (zk B im lm) else zeRun 27 4 [some (.int l0)] [] (zk B im lm) := ze_if (ok := true) rfl 2 rfl rfl
theorem d_27_14 {B : zeB} {im : Nat → Nat → Int32} {lm : Nat → Nat → Int64} (o0 : Option Value)  : zeRun 27 14 [o0] [] (zk B im lm) = some (some (.int 0), (zk B im lm)) := ze_ret (ok := true) rfl 2 rfl rfl
theorem d_27_4 {B : zeB} {im : Nat → Nat → Int32} {lm : Nat → Nat → Int64} (l0 : Int32)  : zeRun 27 4 [some (.int l0)] [] (zk B im lm) = if 25 ≤ l0 then zeRun 27 14 [some (.int l0)] [] (zk B im lm) else zeRun 27 10 [some (.int l0)] [] (zk B im lm) := ze_if (ok := true) rfl 3 rfl rfl
theorem d_27_10 {B : zeB} {im : Nat → Nat → Int32} {lm : Nat → Nat → Int64} (o0 : Option Value)  : zeRun 27 10 [o0] [] (zk B im lm) = some (some (.int 1), (zk B im lm)) := ze_ret (ok := true) rfl 3 rfl rfl
def m_27 (l0 : Int32) (im : zI) (lm : zJ) : zR :=
    some (if l0 < 0 then 0 else if 25 ≤ l0 then 0 else 1, im, lm)
theorem m_27_ok {B : zeB} (l0 : Int32) (im : zI) (lm : zJ) : zL B 1 (m_27 l0 im lm) (zeRun 27 0 [some (.int l0)] [] (zk B im lm)) := by
  unfold m_27
  refine zL_ifm (d_27_0 _) (fun h => ?_) (fun h => ?_)
  · repeat rw [if_pos h]
    exact zL_ret (d_27_14 _)
  · repeat rw [if_neg h]
    refine zL_ifm (d_27_4 _) (fun h => ?_) (fun h => ?_)
    · repeat rw [if_pos h]
      exact zL_ret (d_27_14 _)
    · repeat rw [if_neg h]
      exact zL_ret (d_27_10 _)
/-! X4_solverOf -/
theorem d_72_0 {B : zeB} {im : Nat → Nat → Int32} {lm : Nat → Nat → Int64} (l1 : Int32)  : zeRun 72 0 [some (.ref 32), some (.int l1)] [] (zk B im lm) = zeBh 72 4 [some (.ref 32), some (.int l1)] [] (zeRun 27 0 [some (.int l1)] [] (zk B im lm)) := ze_call (ok := true) rfl 2 rfl rfl rfl
theorem d_72_4 {B : zeB} {im : Nat → Nat → Int32} {lm : Nat → Nat → Int64} (l1 : Int32) (s0 : Int32)  : zeRun 72 4 [some (.ref 32), some (.int l1)] [.int s0] (zk B im lm) = if s0 = 0 then zeRun 72 16 [some (.ref 32), some (.int l1)] [] (zk B im lm) else zeRun 72 7 [some (.ref 32), some (.int l1)] [] (zk B im lm) := ze_if (ok := true) rfl 1 rfl rfl
theorem d_72_16 {B : zeB} {im : Nat → Nat → Int32} {lm : Nat → Nat → Int64} (o0 : Option Value) (o1 : Option Value)  : zeRun 72 16 [o0, o1] [] (zk B im lm) = some (some (.int (-10000005)), (zk B im lm)) := ze_ret (ok := true) rfl 2 rfl rfl
theorem d_72_7 {B : zeB} {im : Nat → Nat → Int32} {lm : Nat → Nat → Int64} (l1 : Int32) (c0 : zeInb l1 25 = true) : zeRun 72 7 [some (.ref 32), some (.int l1)] [] (zk B im lm) = some (some (.int (im 37 (Int32.toNatClampNeg l1))), (zk B im lm)) := ze_ret (ok := (zeInb l1 25 && true)) rfl 6 rfl (zeA2 c0 rfl)
def m_72 (l1 : Int32) (im : zI) (lm : zJ) : zR :=
    zCk (if (if l1 < 0 then 0 else if 25 ≤ l1 then 0 else 1 : Int32) = 0 then true else zeInb l1 25) <|
    some (if (if l1 < 0 then 0 else if 25 ≤ l1 then 0 else 1 : Int32) = 0 then (-10000005) else (im 37 (Int32.toNatClampNeg l1)), im, lm)
theorem m_72_ok {B : zeB} (l1 : Int32) (im : zI) (lm : zJ) : zL B 1 (m_72 l1 im lm) (zeRun 72 0 [some (.ref 32), some (.int l1)] [] (zk B im lm)) := by
  unfold m_72
  refine zL_bdp (e := (if l1 < 0 then 0 else if 25 ≤ l1 then 0 else 1 : Int32)) (d_72_0 _) (m_27_ok _ _ _) ?_
  refine zL_ifm (d_72_4 _ _) (fun h => ?_) (fun h => ?_)
  · repeat rw [if_pos h]
    refine zL_ckt ?_
    exact zL_ret (d_72_16 _ _)
  · repeat rw [if_neg h]
    refine zL_ck fun c1 => ?_
    exact zL_ret (d_72_7 _ c1)
/-! X4_limited -/
theorem d_73_0 {B : zeB} {im : Nat → Nat → Int32} {lm : Nat → Nat → Int64} (l0 : Int32) (l1 : Int32) (l2 : Int32)  : zeRun 73 0 [some (.int l0), some (.int l1), some (.int l2)] [] (zk B im lm) = if l1 = 2 then zeRun 73 5 [some (.int l0), some (.int l1), some (.int l2)] [] (zk B im lm) else zeRun 73 17 [some (.int l0), some (.int l1), some (.int l2)] [] (zk B im lm) := ze_if (ok := true) rfl 3 rfl rfl
theorem d_73_5 {B : zeB} {im : Nat → Nat → Int32} {lm : Nat → Nat → Int64} (l0 : Int32) (o1 : Option Value) (l2 : Int32)  : zeRun 73 5 [some (.int l0), o1, some (.int l2)] [] (zk B im lm) = some (some (.int (if (if l2 < 500 then 500 else l2) < l0 then (if l2 < 500 then 500 else l2) else l0)), (zk B im lm)) := ze_ret (ok := true) rfl 6 rfl rfl
theorem d_73_17 {B : zeB} {im : Nat → Nat → Int32} {lm : Nat → Nat → Int64} (l0 : Int32) (l1 : Int32) (l2 : Int32)  : zeRun 73 17 [some (.int l0), some (.int l1), some (.int l2)] [] (zk B im lm) = if l1 = 3 then zeRun 73 22 [some (.int l0), some (.int l1), some (.int l2)] [] (zk B im lm) else zeRun 73 32 [some (.int l0), some (.int l1), some (.int l2)] [] (zk B im lm) := ze_if (ok := true) rfl 3 rfl rfl
theorem d_73_22 {B : zeB} {im : Nat → Nat → Int32} {lm : Nat → Nat → Int64} (l0 : Int32) (o1 : Option Value) (l2 : Int32)  : zeRun 73 22 [some (.int l0), o1, some (.int l2)] [] (zk B im lm) = some (some (.int (if (if l2 < 0 then 0 else l2) < l0 then (if l2 < 0 then 0 else l2) else l0)), (zk B im lm)) := ze_ret (ok := true) rfl 6 rfl rfl
theorem d_73_32 {B : zeB} {im : Nat → Nat → Int32} {lm : Nat → Nat → Int64} (l0 : Int32) (o1 : Option Value) (o2 : Option Value)  : zeRun 73 32 [some (.int l0), o1, o2] [] (zk B im lm) = some (some (.int l0), (zk B im lm)) := ze_ret (ok := true) rfl 2 rfl rfl
def m_73 (l0 : Int32) (l1 : Int32) (l2 : Int32) (im : zI) (lm : zJ) : zR :=
    some (if l1 = 2 then (if (if l2 < 500 then 500 else l2) < l0 then (if l2 < 500 then 500 else l2) else l0) else if l1 = 3 then (if (if l2 < 0 then 0 else l2) < l0 then (if l2 < 0 then 0 else l2) else l0) else l0, im, lm)
theorem m_73_ok {B : zeB} (l0 : Int32) (l1 : Int32) (l2 : Int32) (im : zI) (lm : zJ) : zL B 1 (m_73 l0 l1 l2 im lm) (zeRun 73 0 [some (.int l0), some (.int l1), some (.int l2)] [] (zk B im lm)) := by
  unfold m_73
  refine zL_ifm (d_73_0 _ _ _) (fun h => ?_) (fun h => ?_)
  · repeat rw [if_pos h]
    exact zL_ret (d_73_5 _ _ _)
  · repeat rw [if_neg h]
    refine zL_ifm (d_73_17 _ _ _) (fun h => ?_) (fun h => ?_)
    · repeat rw [if_pos h]
      exact zL_ret (d_73_22 _ _ _)
    · repeat rw [if_neg h]
      exact zL_ret (d_73_32 _ _ _)
/-! X4_noteRight -/
theorem d_74_0 {B : zeB} {im : Nat → Nat → Int32} {lm : Nat → Nat → Int64} (l1 : Int32) (l2 : Int32) (c0 : zeInb l1 6 = true) (c1 : zeInb l1 6 = true) : zeRun 74 0 [some (.ref 32), some (.int l1), some (.int l2)] [] (zk B im lm) = zeBh 74 14 [some (.ref 32), some (.int l1), some (.int l2)] [] (zeRun 27 0 [some (.int l2)] [] (zk B (zeU2 im 34 (Int32.toNatClampNeg l1) ((im 34 (Int32.toNatClampNeg l1)) + 1)) lm)) := ze_call (ok := (zeInb l1 6 && (zeInb l1 6 && true))) rfl 10 rfl rfl (zeA2 c1 (zeA2 c0 rfl))
theorem d_74_14 {B : zeB} {im : Nat → Nat → Int32} {lm : Nat → Nat → Int64} (l1 : Int32) (l2 : Int32) (s0 : Int32)  : zeRun 74 14 [some (.ref 32), some (.int l1), some (.int l2)] [.int s0] (zk B im lm) = if s0 = 0 then zeRun 74 29 [some (.ref 32), some (.int l1), some (.int l2)] [] (zk B im lm) else zeRun 74 17 [some (.ref 32), some (.int l1), some (.int l2)] [] (zk B im lm) := ze_if (ok := true) rfl 1 rfl rfl
theorem d_74_29 {B : zeB} {im : Nat → Nat → Int32} {lm : Nat → Nat → Int64} (o0 : Option Value) (o1 : Option Value) (o2 : Option Value)  : zeRun 74 29 [o0, o1, o2] [] (zk B im lm) = some (none, (zk B im lm)) := ze_ret (ok := true) rfl 1 rfl rfl
theorem d_74_17 {B : zeB} {im : Nat → Nat → Int32} {lm : Nat → Nat → Int64} (l1 : Int32) (l2 : Int32) (c0 : zeInb l2 25 = true) : zeRun 74 17 [some (.ref 32), some (.int l1), some (.int l2)] [] (zk B im lm) = some (none, (zk B (zeU2 (zeU2 im 37 (Int32.toNatClampNeg l2) l1) 32 0 l1) lm)) := ze_ret (ok := (zeInb l2 25 && true)) rfl 9 rfl (zeA2 c0 rfl)
def m_74 (l1 : Int32) (l2 : Int32) (im : zI) (lm : zJ) : zR :=
    zCk (zeInb l1 6) <|
    zCk (if (if l2 < 0 then 0 else if 25 ≤ l2 then 0 else 1 : Int32) = 0 then true else zeInb l2 25) <|
    some (0, if (if l2 < 0 then 0 else if 25 ≤ l2 then 0 else 1 : Int32) = 0 then (zeU2 im 34 (Int32.toNatClampNeg l1) ((im 34 (Int32.toNatClampNeg l1)) + 1)) else (zeU2 (zeU2 (zeU2 im 34 (Int32.toNatClampNeg l1) ((im 34 (Int32.toNatClampNeg l1)) + 1)) 37 (Int32.toNatClampNeg l2) l1) 32 0 l1), lm)
theorem m_74_ok {B : zeB} (l1 : Int32) (l2 : Int32) (im : zI) (lm : zJ) : zL B 0 (m_74 l1 l2 im lm) (zeRun 74 0 [some (.ref 32), some (.int l1), some (.int l2)] [] (zk B im lm)) := by
  unfold m_74
  refine zL_ck fun c1 => ?_
  refine zL_bdp (e := (if l2 < 0 then 0 else if 25 ≤ l2 then 0 else 1 : Int32)) (d_74_0 _ _ c1 c1) (m_27_ok _ _ _) ?_
  refine zL_ifm (d_74_14 _ _ _) (fun h => ?_) (fun h => ?_)
  · repeat rw [if_pos h]
    refine zL_ckt ?_
    exact zL_retv (d_74_29 _ _ _)
  · repeat rw [if_neg h]
    refine zL_ck fun c2 => ?_
    exact zL_retv (d_74_17 _ _ c2)
/-! X4_replayEntry -/
theorem d_75_0 {B : zeB} {im : Nat → Nat → Int32} {lm : Nat → Nat → Int64} (l2 : Int32) (o3 : Option Value) (o4 : Option Value) (c0 : zeInb l2 60 = true) : zeRun 75 0 [some (.ref 32), some (.ref 26), some (.int l2), o3, o4] [] (zk B im lm) = zeBh 75 11 [some (.ref 32), some (.ref 26), some (.int l2), some (.int (im 27 (Int32.toNatClampNeg l2))), o4] [] (zeRun 79 0 [some (.int (im 27 (Int32.toNatClampNeg l2)))] [] (zk B im lm)) := ze_call (ok := (zeInb l2 60 && true)) rfl 7 rfl rfl (zeA2 c0 rfl)
theorem d_75_11 {B : zeB} {im : Nat → Nat → Int32} {lm : Nat → Nat → Int64} (l2 : Int32) (l3 : Int32) (o4 : Option Value) (s0 : Int32)  : zeRun 75 11 [some (.ref 32), some (.ref 26), some (.int l2), some (.int l3), o4] [.int s0] (zk B im lm) = if s0 = 0 then zeRun 75 14 [some (.ref 32), some (.ref 26), some (.int l2), some (.int l3), o4] [] (zk B im lm) else zeRun 75 15 [some (.ref 32), some (.ref 26), some (.int l2), some (.int l3), o4] [] (zk B im lm) := ze_if (ok := true) rfl 1 rfl rfl
theorem d_75_14 {B : zeB} {im : Nat → Nat → Int32} {lm : Nat → Nat → Int64} (o0 : Option Value) (o1 : Option Value) (o2 : Option Value) (o3 : Option Value) (o4 : Option Value)  : zeRun 75 14 [o0, o1, o2, o3, o4] [] (zk B im lm) = some (none, (zk B im lm)) := ze_ret (ok := true) rfl 1 rfl rfl
theorem d_75_15 {B : zeB} {im : Nat → Nat → Int32} {lm : Nat → Nat → Int64} (l2 : Int32) (l3 : Int32) (o4 : Option Value) (c0 : zeInb l2 60 = true) (c1 : zeInb l2 60 = true) : zeRun 75 15 [some (.ref 32), some (.ref 26), some (.int l2), some (.int l3), o4] [] (zk B im lm) = if (im 28 (Int32.toNatClampNeg l2)) = 1 then zeRun 75 38 [some (.ref 32), some (.ref 26), some (.int l2), some (.int l3), some (.int (im 30 (Int32.toNatClampNeg l2)))] [.int l2, .ref 40] (zk B im lm) else zeRun 75 57 [some (.ref 32), some (.ref 26), some (.int l2), some (.int l3), some (.int (im 30 (Int32.toNatClampNeg l2)))] [.int l2, .ref 40] (zk B im lm) := ze_if (ok := (zeInb l2 60 && (zeInb l2 60 && true))) rfl 14 rfl (zeA2 c1 (zeA2 c0 rfl))
theorem d_75_38 {B : zeB} {im : Nat → Nat → Int32} {lm : Nat → Nat → Int64} (l2 : Int32) (l3 : Int32) (l4 : Int32) (s1 : Int32) (c0 : zeInb l2 60 = true) : zeRun 75 38 [some (.ref 32), some (.ref 26), some (.int l2), some (.int l3), some (.int l4)] [.int s1, .ref 40] (zk B im lm) = zeBh 75 48 [some (.ref 32), some (.ref 26), some (.int l2), some (.int l3), some (.int l4)] [.int s1, .ref 40] (zeRun 72 0 [some (.ref 32), some (.int (im 29 (Int32.toNatClampNeg l2)))] [] (zk B im lm)) := ze_call (ok := (zeInb l2 60 && true)) rfl 6 rfl rfl (zeA2 c0 rfl)
theorem d_75_48 {B : zeB} {im : Nat → Nat → Int32} {lm : Nat → Nat → Int64} (l2 : Int32) (l3 : Int32) (l4 : Int32) (s1 : Int32) (s2 : Int32)  : zeRun 75 48 [some (.ref 32), some (.ref 26), some (.int l2), some (.int l3), some (.int l4)] [.int s2, .int s1, .ref 40] (zk B im lm) = if s2 = (-10000005) then zeRun 75 57 [some (.ref 32), some (.ref 26), some (.int l2), some (.int l3), some (.int l4)] [.int s1, .ref 40] (zk B im lm) else zeRun 75 53 [some (.ref 32), some (.ref 26), some (.int l2), some (.int l3), some (.int l4)] [.int s1, .ref 40] (zk B im lm) := ze_if (ok := true) rfl 2 rfl rfl
theorem d_75_57 {B : zeB} {im : Nat → Nat → Int32} {lm : Nat → Nat → Int64} (l2 : Int32) (l3 : Int32) (l4 : Int32) (s1 : Int32)  : zeRun 75 57 [some (.ref 32), some (.ref 26), some (.int l2), some (.int l3), some (.int l4)] [.int s1, .ref 40] (zk B im lm) = zeRun 75 58 [some (.ref 32), some (.ref 26), some (.int l2), some (.int l3), some (.int l4)] [.int 0, .int s1, .ref 40] (zk B im lm) := ze_go (ok := true) rfl 1 rfl rfl
theorem d_75_53 {B : zeB} {im : Nat → Nat → Int32} {lm : Nat → Nat → Int64} (l2 : Int32) (l3 : Int32) (l4 : Int32) (s1 : Int32)  : zeRun 75 53 [some (.ref 32), some (.ref 26), some (.int l2), some (.int l3), some (.int l4)] [.int s1, .ref 40] (zk B im lm) = zeRun 75 58 [some (.ref 32), some (.ref 26), some (.int l2), some (.int l3), some (.int l4)] [.int 1, .int s1, .ref 40] (zk B im lm) := ze_go (ok := true) rfl 2 rfl rfl
theorem d_75_58 {B : zeB} {im : Nat → Nat → Int32} {lm : Nat → Nat → Int64} (l2 : Int32) (l3 : Int32) (l4 : Int32) (s1 : Int32) (s2 : Int32) (c0 : zeInb s1 60 = true) (c1 : zeInb l2 60 = true) : zeRun 75 58 [some (.ref 32), some (.ref 26), some (.int l2), some (.int l3), some (.int l4)] [.int s2, .int s1, .ref 40] (zk B im lm) = if ((zeU2 im 40 (Int32.toNatClampNeg s1) (vp_nar .boolean s2)) 40 (Int32.toNatClampNeg l2)) = 0 then zeRun 75 77 [some (.ref 32), some (.ref 26), some (.int l2), some (.int l3), some (.int l4)] [.int l2, .ref 38] (zk B (zeU2 im 40 (Int32.toNatClampNeg s1) (vp_nar .boolean s2)) lm) else zeRun 75 73 [some (.ref 32), some (.ref 26), some (.int l2), some (.int l3), some (.int l4)] [.int l2, .ref 38] (zk B (zeU2 im 40 (Int32.toNatClampNeg s1) (vp_nar .boolean s2)) lm) := ze_if (ok := (zeInb l2 60 && (zeInb s1 60 && true))) rfl 9 rfl (zeA2 c1 (zeA2 c0 rfl))
theorem d_75_77 {B : zeB} {im : Nat → Nat → Int32} {lm : Nat → Nat → Int64} (l2 : Int32) (l3 : Int32) (l4 : Int32) (s1 : Int32) (c0 : zeInb l2 60 = true) (c1 : zeInb l3 6 = true) : zeRun 75 77 [some (.ref 32), some (.ref 26), some (.int l2), some (.int l3), some (.int l4)] [.int s1, .ref 38] (zk B im lm) = zeBh 75 94 [some (.ref 32), some (.ref 26), some (.int l2), some (.int l3), some (.int l4)] [.int s1, .ref 38] (zeRun 73 0 [some (.int l4), some (.int (im 28 (Int32.toNatClampNeg l2))), some (.int (im 33 (Int32.toNatClampNeg l3)))] [] (zk B im lm)) := ze_call (ok := (zeInb l3 6 && (zeInb l2 60 && true))) rfl 10 rfl rfl (zeA2 c1 (zeA2 c0 rfl))
theorem d_75_73 {B : zeB} {im : Nat → Nat → Int32} {lm : Nat → Nat → Int64} (l2 : Int32) (l3 : Int32) (l4 : Int32) (s1 : Int32)  : zeRun 75 73 [some (.ref 32), some (.ref 26), some (.int l2), some (.int l3), some (.int l4)] [.int s1, .ref 38] (zk B im lm) = zeRun 75 94 [some (.ref 32), some (.ref 26), some (.int l2), some (.int l3), some (.int l4)] [.int 0, .int s1, .ref 38] (zk B im lm) := ze_go (ok := true) rfl 2 rfl rfl
theorem d_75_94 {B : zeB} {im : Nat → Nat → Int32} {lm : Nat → Nat → Int64} (l2 : Int32) (l3 : Int32) (l4 : Int32) (s1 : Int32) (s2 : Int32) (c0 : zeInb s1 60 = true) (c1 : zeInb l2 60 = true) : zeRun 75 94 [some (.ref 32), some (.ref 26), some (.int l2), some (.int l3), some (.int l4)] [.int s2, .int s1, .ref 38] (zk B im lm) = if (im 28 (Int32.toNatClampNeg l2)) = 4 then zeRun 75 105 [some (.ref 32), some (.ref 26), some (.int l2), some (.int l3), some (.int l4)] [] (zk B (zeU2 im 38 (Int32.toNatClampNeg s1) s2) lm) else zeRun 75 130 [some (.ref 32), some (.ref 26), some (.int l2), some (.int l3), some (.int l4)] [] (zk B (zeU2 im 38 (Int32.toNatClampNeg s1) s2) lm) := ze_if (ok := (zeInb l2 60 && (zeInb s1 60 && true))) rfl 7 rfl (zeA2 c1 (zeA2 c0 rfl))
theorem d_75_105 {B : zeB} {im : Nat → Nat → Int32} {lm : Nat → Nat → Int64} (o1 : Option Value) (l2 : Int32) (l3 : Int32) (l4 : Int32) (c0 : zeInb l3 6 = true) (c1 : zeInb l3 6 = true) (c2 : zeInb l3 6 = true) (c3 : zeInb l3 6 = true) : zeRun 75 105 [some (.ref 32), o1, some (.int l2), some (.int l3), some (.int l4)] [] (zk B im lm) = zeRun 75 212 [some (.ref 32), o1, some (.int l2), some (.int l3), some (.int l4)] [] (zk B (zeU2 (zeU2 im 33 (Int32.toNatClampNeg l3) ((im 33 (Int32.toNatClampNeg l3)) + l4)) 36 (Int32.toNatClampNeg l3) ((im 36 (Int32.toNatClampNeg l3)) + l4)) lm) := ze_go (ok := (zeInb l3 6 && (zeInb l3 6 && (zeInb l3 6 && (zeInb l3 6 && true))))) rfl 17 rfl (zeA2 c3 (zeA2 c2 (zeA2 c1 (zeA2 c0 rfl))))
theorem d_75_130 {B : zeB} {im : Nat → Nat → Int32} {lm : Nat → Nat → Int64} (l2 : Int32) (l3 : Int32) (o4 : Option Value) (c0 : zeInb l2 60 = true) : zeRun 75 130 [some (.ref 32), some (.ref 26), some (.int l2), some (.int l3), o4] [] (zk B im lm) = if (im 31 (Int32.toNatClampNeg l2)) = 1 then zeRun 75 140 [some (.ref 32), some (.ref 26), some (.int l2), some (.int l3), o4] [] (zk B im lm) else zeRun 75 178 [some (.ref 32), some (.ref 26), some (.int l2), some (.int l3), o4] [] (zk B im lm) := ze_if (ok := (zeInb l2 60 && true)) rfl 6 rfl (zeA2 c0 rfl)
theorem d_75_140 {B : zeB} {im : Nat → Nat → Int32} {lm : Nat → Nat → Int64} (l2 : Int32) (l3 : Int32) (o4 : Option Value) (c0 : zeInb l3 6 = true) (c1 : zeInb l2 60 = true) (c2 : zeInb l3 6 = true) (c3 : zeInb l2 60 = true) : zeRun 75 140 [some (.ref 32), some (.ref 26), some (.int l2), some (.int l3), o4] [] (zk B im lm) = if (im 40 (Int32.toNatClampNeg l2)) = 0 then zeRun 75 164 [some (.ref 32), some (.ref 26), some (.int l2), some (.int l3), o4] [] (zk B (zeU2 im 33 (Int32.toNatClampNeg l3) ((im 33 (Int32.toNatClampNeg l3)) + (im 38 (Int32.toNatClampNeg l2)))) lm) else zeRun 75 212 [some (.ref 32), some (.ref 26), some (.int l2), some (.int l3), o4] [] (zk B (zeU2 im 33 (Int32.toNatClampNeg l3) ((im 33 (Int32.toNatClampNeg l3)) + (im 38 (Int32.toNatClampNeg l2)))) lm) := ze_if (ok := (zeInb l2 60 && (zeInb l3 6 && (zeInb l2 60 && (zeInb l3 6 && true))))) rfl 16 rfl (zeA2 c3 (zeA2 c2 (zeA2 c1 (zeA2 c0 rfl))))
theorem d_75_164 {B : zeB} {im : Nat → Nat → Int32} {lm : Nat → Nat → Int64} (l2 : Int32) (l3 : Int32) (o4 : Option Value) (c0 : zeInb l2 60 = true) : zeRun 75 164 [some (.ref 32), some (.ref 26), some (.int l2), some (.int l3), o4] [] (zk B im lm) = zeBh 75 175 [some (.ref 32), some (.ref 26), some (.int l2), some (.int l3), o4] [] (zeRun 74 0 [some (.ref 32), some (.int l3), some (.int (im 29 (Int32.toNatClampNeg l2)))] [] (zk B im lm)) := ze_call (ok := (zeInb l2 60 && true)) rfl 7 rfl rfl (zeA2 c0 rfl)
theorem d_75_175 {B : zeB} {im : Nat → Nat → Int32} {lm : Nat → Nat → Int64} (o1 : Option Value) (l2 : Int32) (l3 : Int32) (o4 : Option Value)  : zeRun 75 175 [some (.ref 32), o1, some (.int l2), some (.int l3), o4] [] (zk B im lm) = zeRun 75 212 [some (.ref 32), o1, some (.int l2), some (.int l3), o4] [] (zk B im lm) := ze_go (ok := true) rfl 1 rfl rfl
theorem d_75_178 {B : zeB} {im : Nat → Nat → Int32} {lm : Nat → Nat → Int64} (o1 : Option Value) (l2 : Int32) (l3 : Int32) (o4 : Option Value) (c0 : zeInb l3 6 = true) (c1 : zeInb l2 60 = true) (c2 : zeInb l3 6 = true) (c3 : zeInb l2 60 = true) : zeRun 75 178 [some (.ref 32), o1, some (.int l2), some (.int l3), o4] [] (zk B im lm) = if (im 40 (Int32.toNatClampNeg l2)) = 0 then zeRun 75 202 [some (.ref 32), o1, some (.int l2), some (.int l3), o4] [] (zk B (zeU2 im 33 (Int32.toNatClampNeg l3) ((im 33 (Int32.toNatClampNeg l3)) - (im 38 (Int32.toNatClampNeg l2)))) lm) else zeRun 75 212 [some (.ref 32), o1, some (.int l2), some (.int l3), o4] [] (zk B (zeU2 im 33 (Int32.toNatClampNeg l3) ((im 33 (Int32.toNatClampNeg l3)) - (im 38 (Int32.toNatClampNeg l2)))) lm) := ze_if (ok := (zeInb l2 60 && (zeInb l3 6 && (zeInb l2 60 && (zeInb l3 6 && true))))) rfl 16 rfl (zeA2 c3 (zeA2 c2 (zeA2 c1 (zeA2 c0 rfl))))
theorem d_75_202 {B : zeB} {im : Nat → Nat → Int32} {lm : Nat → Nat → Int64} (o1 : Option Value) (l2 : Int32) (l3 : Int32) (o4 : Option Value) (c0 : zeInb l3 6 = true) (c1 : zeInb l3 6 = true) : zeRun 75 202 [some (.ref 32), o1, some (.int l2), some (.int l3), o4] [] (zk B im lm) = zeRun 75 212 [some (.ref 32), o1, some (.int l2), some (.int l3), o4] [] (zk B (zeU2 im 35 (Int32.toNatClampNeg l3) ((im 35 (Int32.toNatClampNeg l3)) + 1)) lm) := ze_go (ok := (zeInb l3 6 && (zeInb l3 6 && true))) rfl 8 rfl (zeA2 c1 (zeA2 c0 rfl))
theorem d_75_212 {B : zeB} {im : Nat → Nat → Int32} {lm : Nat → Nat → Int64} (o1 : Option Value) (l2 : Int32) (l3 : Int32) (o4 : Option Value) (c0 : zeInb l3 6 = true) (c1 : zeInb l2 60 = true) : zeRun 75 212 [some (.ref 32), o1, some (.int l2), some (.int l3), o4] [] (zk B im lm) = some (none, (zk B (zeU2 im 39 (Int32.toNatClampNeg l2) (im 33 (Int32.toNatClampNeg l3))) lm)) := ze_ret (ok := (zeInb l2 60 && (zeInb l3 6 && true))) rfl 9 rfl (zeA2 c1 (zeA2 c0 rfl))
def J_75_212  (l2 : Int32) (l3 : Int32) (im : zI) (lm : zJ) : zR :=
    zCk (zeInb l3 6) <|
    zCk (zeInb l2 60) <|
    some (0, (zeU2 im 39 (Int32.toNatClampNeg l2) (im 33 (Int32.toNatClampNeg l3))), lm)
theorem J_75_212_ok {B : zeB} (l2 : Int32) (l3 : Int32) (o1 : Option Value) (o4 : Option Value) (im : zI) (lm : zJ) : zL B 0 (J_75_212  l2 l3 im lm) (zeRun 75 212 [some (.ref 32), o1, some (.int l2), some (.int l3), o4] [] (zk B im lm)) := by
  unfold J_75_212
  refine zL_ck fun c1 => ?_
  refine zL_ck fun c2 => ?_
  exact zL_retv (d_75_212 _ _ _ _ c1 c2)
def J_75_94  (l2 : Int32) (l3 : Int32) (l4 : Int32) (s1 : Int32) (s2 : Int32) (im : zI) (lm : zJ) : zR :=
    zCk (zeInb s1 60) <|
    zCk (zeInb l2 60) <|
    if (im 28 (Int32.toNatClampNeg l2)) = 4 then
      zCk (zeInb l3 6) <|
      J_75_212   l2 l3 (zeU2 (zeU2 (zeU2 im 38 (Int32.toNatClampNeg s1) s2) 33 (Int32.toNatClampNeg l3) (((zeU2 im 38 (Int32.toNatClampNeg s1) s2) 33 (Int32.toNatClampNeg l3)) + l4)) 36 (Int32.toNatClampNeg l3) (((zeU2 im 38 (Int32.toNatClampNeg s1) s2) 36 (Int32.toNatClampNeg l3)) + l4)) lm
    else
      if ((zeU2 im 38 (Int32.toNatClampNeg s1) s2) 31 (Int32.toNatClampNeg l2)) = 1 then
        zCk (zeInb l3 6) <|
        if ((zeU2 im 38 (Int32.toNatClampNeg s1) s2) 40 (Int32.toNatClampNeg l2)) = 0 then
          zBd (m_74 l3 ((zeU2 (zeU2 im 38 (Int32.toNatClampNeg s1) s2) 33 (Int32.toNatClampNeg l3) (((zeU2 im 38 (Int32.toNatClampNeg s1) s2) 33 (Int32.toNatClampNeg l3)) + ((zeU2 im 38 (Int32.toNatClampNeg s1) s2) 38 (Int32.toNatClampNeg l2)))) 29 (Int32.toNatClampNeg l2)) (zeU2 (zeU2 im 38 (Int32.toNatClampNeg s1) s2) 33 (Int32.toNatClampNeg l3) (((zeU2 im 38 (Int32.toNatClampNeg s1) s2) 33 (Int32.toNatClampNeg l3)) + ((zeU2 im 38 (Int32.toNatClampNeg s1) s2) 38 (Int32.toNatClampNeg l2)))) lm) fun _ im1 lm1 =>
          J_75_212   l2 l3 im1 lm1
        else
          J_75_212   l2 l3 (zeU2 (zeU2 im 38 (Int32.toNatClampNeg s1) s2) 33 (Int32.toNatClampNeg l3) (((zeU2 im 38 (Int32.toNatClampNeg s1) s2) 33 (Int32.toNatClampNeg l3)) + ((zeU2 im 38 (Int32.toNatClampNeg s1) s2) 38 (Int32.toNatClampNeg l2)))) lm
      else
        zCk (zeInb l3 6) <|
        J_75_212   l2 l3 (if ((zeU2 im 38 (Int32.toNatClampNeg s1) s2) 40 (Int32.toNatClampNeg l2)) = 0 then (zeU2 (zeU2 (zeU2 im 38 (Int32.toNatClampNeg s1) s2) 33 (Int32.toNatClampNeg l3) (((zeU2 im 38 (Int32.toNatClampNeg s1) s2) 33 (Int32.toNatClampNeg l3)) - ((zeU2 im 38 (Int32.toNatClampNeg s1) s2) 38 (Int32.toNatClampNeg l2)))) 35 (Int32.toNatClampNeg l3) (((zeU2 (zeU2 im 38 (Int32.toNatClampNeg s1) s2) 33 (Int32.toNatClampNeg l3) (((zeU2 im 38 (Int32.toNatClampNeg s1) s2) 33 (Int32.toNatClampNeg l3)) - ((zeU2 im 38 (Int32.toNatClampNeg s1) s2) 38 (Int32.toNatClampNeg l2)))) 35 (Int32.toNatClampNeg l3)) + 1)) else (zeU2 (zeU2 im 38 (Int32.toNatClampNeg s1) s2) 33 (Int32.toNatClampNeg l3) (((zeU2 im 38 (Int32.toNatClampNeg s1) s2) 33 (Int32.toNatClampNeg l3)) - ((zeU2 im 38 (Int32.toNatClampNeg s1) s2) 38 (Int32.toNatClampNeg l2))))) lm
theorem J_75_94_ok {B : zeB} (l2 : Int32) (l3 : Int32) (l4 : Int32) (s1 : Int32) (s2 : Int32)  (im : zI) (lm : zJ) : zL B 0 (J_75_94  l2 l3 l4 s1 s2 im lm) (zeRun 75 94 [some (.ref 32), some (.ref 26), some (.int l2), some (.int l3), some (.int l4)] [.int s2, .int s1, .ref 38] (zk B im lm)) := by
  unfold J_75_94
  refine zL_ck fun c1 => ?_
  refine zL_ck fun c2 => ?_
  refine zL_if (d_75_94 _ _ _ _ _ c1 c2) (fun h => ?_) (fun h => ?_)
  · skip
    refine zL_ck fun c3 => ?_
    refine zL_eq (d_75_105 _ _ _ _ c3 c3 c3 c3) ?_
    exact J_75_212_ok   _ _ _ _ _ _
  · skip
    refine zL_if (d_75_130 _ _ _ c2) (fun h => ?_) (fun h => ?_)
    · skip
      refine zL_ck fun c4 => ?_
      refine zL_if (d_75_140 _ _ _ c4 c2 c4 c2) (fun h => ?_) (fun h => ?_)
      · skip
        refine zL_bdv (d_75_164 _ _ _ c2) (m_74_ok _ _ _ _) fun _ im1 lm1 => ?_
        refine zL_eq (d_75_175 _ _ _ _) ?_
        exact J_75_212_ok   _ _ _ _ _ _
      · skip
        exact J_75_212_ok   _ _ _ _ _ _
    · skip
      refine zL_ck fun c5 => ?_
      refine zL_ifm (d_75_178 _ _ _ _ c5 c2 c5 c2) (fun h => ?_) (fun h => ?_)
      · repeat rw [if_pos h]
        refine zL_eq (d_75_202 _ _ _ _ c5 c5) ?_
        exact J_75_212_ok   _ _ _ _ _ _
      · repeat rw [if_neg h]
        exact J_75_212_ok   _ _ _ _ _ _
def J_75_58  (l2 : Int32) (l3 : Int32) (l4 : Int32) (s1 : Int32) (s2 : Int32) (im : zI) (lm : zJ) : zR :=
    zCk (zeInb s1 60) <|
    zCk (zeInb l2 60) <|
    zCk (if ((zeU2 im 40 (Int32.toNatClampNeg s1) (vp_nar .boolean s2)) 40 (Int32.toNatClampNeg l2)) = 0 then zeInb l3 6 else true) <|
    J_75_94   l2 l3 l4 l2 (if ((zeU2 im 40 (Int32.toNatClampNeg s1) (vp_nar .boolean s2)) 40 (Int32.toNatClampNeg l2)) = 0 then (if ((zeU2 im 40 (Int32.toNatClampNeg s1) (vp_nar .boolean s2)) 28 (Int32.toNatClampNeg l2)) = 2 then (if (if ((zeU2 im 40 (Int32.toNatClampNeg s1) (vp_nar .boolean s2)) 33 (Int32.toNatClampNeg l3)) < 500 then 500 else ((zeU2 im 40 (Int32.toNatClampNeg s1) (vp_nar .boolean s2)) 33 (Int32.toNatClampNeg l3))) < l4 then (if ((zeU2 im 40 (Int32.toNatClampNeg s1) (vp_nar .boolean s2)) 33 (Int32.toNatClampNeg l3)) < 500 then 500 else ((zeU2 im 40 (Int32.toNatClampNeg s1) (vp_nar .boolean s2)) 33 (Int32.toNatClampNeg l3))) else l4) else if ((zeU2 im 40 (Int32.toNatClampNeg s1) (vp_nar .boolean s2)) 28 (Int32.toNatClampNeg l2)) = 3 then (if (if ((zeU2 im 40 (Int32.toNatClampNeg s1) (vp_nar .boolean s2)) 33 (Int32.toNatClampNeg l3)) < 0 then 0 else ((zeU2 im 40 (Int32.toNatClampNeg s1) (vp_nar .boolean s2)) 33 (Int32.toNatClampNeg l3))) < l4 then (if ((zeU2 im 40 (Int32.toNatClampNeg s1) (vp_nar .boolean s2)) 33 (Int32.toNatClampNeg l3)) < 0 then 0 else ((zeU2 im 40 (Int32.toNatClampNeg s1) (vp_nar .boolean s2)) 33 (Int32.toNatClampNeg l3))) else l4) else l4 : Int32) else 0) (zeU2 im 40 (Int32.toNatClampNeg s1) (vp_nar .boolean s2)) lm
theorem J_75_58_ok {B : zeB} (l2 : Int32) (l3 : Int32) (l4 : Int32) (s1 : Int32) (s2 : Int32)  (im : zI) (lm : zJ) : zL B 0 (J_75_58  l2 l3 l4 s1 s2 im lm) (zeRun 75 58 [some (.ref 32), some (.ref 26), some (.int l2), some (.int l3), some (.int l4)] [.int s2, .int s1, .ref 40] (zk B im lm)) := by
  unfold J_75_58
  refine zL_ck fun c1 => ?_
  refine zL_ck fun c2 => ?_
  refine zL_ifm (d_75_58 _ _ _ _ _ c1 c2) (fun h => ?_) (fun h => ?_)
  · repeat rw [if_pos h]
    refine zL_ck fun c3 => ?_
    refine zL_bdp (e := (if ((zeU2 im 40 (Int32.toNatClampNeg s1) (vp_nar .boolean s2)) 28 (Int32.toNatClampNeg l2)) = 2 then (if (if ((zeU2 im 40 (Int32.toNatClampNeg s1) (vp_nar .boolean s2)) 33 (Int32.toNatClampNeg l3)) < 500 then 500 else ((zeU2 im 40 (Int32.toNatClampNeg s1) (vp_nar .boolean s2)) 33 (Int32.toNatClampNeg l3))) < l4 then (if ((zeU2 im 40 (Int32.toNatClampNeg s1) (vp_nar .boolean s2)) 33 (Int32.toNatClampNeg l3)) < 500 then 500 else ((zeU2 im 40 (Int32.toNatClampNeg s1) (vp_nar .boolean s2)) 33 (Int32.toNatClampNeg l3))) else l4) else if ((zeU2 im 40 (Int32.toNatClampNeg s1) (vp_nar .boolean s2)) 28 (Int32.toNatClampNeg l2)) = 3 then (if (if ((zeU2 im 40 (Int32.toNatClampNeg s1) (vp_nar .boolean s2)) 33 (Int32.toNatClampNeg l3)) < 0 then 0 else ((zeU2 im 40 (Int32.toNatClampNeg s1) (vp_nar .boolean s2)) 33 (Int32.toNatClampNeg l3))) < l4 then (if ((zeU2 im 40 (Int32.toNatClampNeg s1) (vp_nar .boolean s2)) 33 (Int32.toNatClampNeg l3)) < 0 then 0 else ((zeU2 im 40 (Int32.toNatClampNeg s1) (vp_nar .boolean s2)) 33 (Int32.toNatClampNeg l3))) else l4) else l4 : Int32)) (d_75_77 _ _ _ _ c2 c3) (m_73_ok _ _ _ _ _) ?_
    exact J_75_94_ok   _ _ _ _ _ _ _
  · repeat rw [if_neg h]
    refine zL_eq (d_75_73 _ _ _ _) ?_
    refine zL_ckt ?_
    exact J_75_94_ok   _ _ _ _ _ _ _
def m_75 (l2 : Int32) (im : zI) (lm : zJ) : zR :=
    zCk (zeInb l2 60) <|
    if (if (im 27 (Int32.toNatClampNeg l2)) < 0 then 0 else if 6 ≤ (im 27 (Int32.toNatClampNeg l2)) then 0 else 1 : Int32) = 0 then
      some (0, im, lm)
    else
      if (im 28 (Int32.toNatClampNeg l2)) = 1 then
        zBd (m_72 (im 29 (Int32.toNatClampNeg l2)) im lm) fun v2 im2 lm2 =>
        J_75_58   l2 (im 27 (Int32.toNatClampNeg l2)) (im 30 (Int32.toNatClampNeg l2)) l2 (if v2 = (-10000005) then 0 else 1) im2 lm2
      else
        J_75_58   l2 (im 27 (Int32.toNatClampNeg l2)) (im 30 (Int32.toNatClampNeg l2)) l2 0 im lm
theorem m_75_ok {B : zeB} (l2 : Int32) (im : zI) (lm : zJ) : zL B 0 (m_75 l2 im lm) (zeRun 75 0 [some (.ref 32), some (.ref 26), some (.int l2), none, none] [] (zk B im lm)) := by
  unfold m_75
  refine zL_ck fun c1 => ?_
  refine zL_bdp (e := (if (im 27 (Int32.toNatClampNeg l2)) < 0 then 0 else if 6 ≤ (im 27 (Int32.toNatClampNeg l2)) then 0 else 1 : Int32)) (d_75_0 _ _ _ c1) (m_79_ok _ _ _) ?_
  refine zL_if (d_75_11 _ _ _ _) (fun h => ?_) (fun h => ?_)
  · skip
    exact zL_retv (d_75_14 _ _ _ _ _)
  · skip
    refine zL_if (d_75_15 _ _ _ c1 c1) (fun h => ?_) (fun h => ?_)
    · skip
      refine zL_bd (d_75_38 _ _ _ _ c1) (m_72_ok _ _ _) fun v2 im2 lm2 => ?_
      refine zL_ifm (d_75_48 _ _ _ _ _) (fun h => ?_) (fun h => ?_)
      · repeat rw [if_pos h]
        refine zL_eq (d_75_57 _ _ _ _) ?_
        exact J_75_58_ok   _ _ _ _ _ _ _
      · repeat rw [if_neg h]
        refine zL_eq (d_75_53 _ _ _ _) ?_
        exact J_75_58_ok   _ _ _ _ _ _ _
    · skip
      refine zL_eq (d_75_57 _ _ _ _) ?_
      exact J_75_58_ok   _ _ _ _ _ _ _
/-! X4_run -/
theorem d_76_0 {B : zeB} {im : Nat → Nat → Int32} {lm : Nat → Nat → Int64} (o2 : Option Value)  : zeRun 76 0 [some (.ref 32), some (.ref 26), o2] [] (zk B im lm) = zeRun 76 7 [some (.ref 32), some (.ref 26), some (.int 0)] [] (zk B (zeU2 im 32 0 0) lm) := ze_go (ok := true) rfl 5 rfl rfl
theorem d_76_7 {B : zeB} {im : Nat → Nat → Int32} {lm : Nat → Nat → Int64} (l2 : Int32)  : zeRun 76 7 [some (.ref 32), some (.ref 26), some (.int l2)] [] (zk B im lm) = if 6 ≤ l2 then zeRun 76 47 [some (.ref 32), some (.ref 26), some (.int l2)] [] (zk B im lm) else zeRun 76 13 [some (.ref 32), some (.ref 26), some (.int l2)] [] (zk B im lm) := ze_if (ok := true) rfl 3 rfl rfl
theorem d_76_47 {B : zeB} {im : Nat → Nat → Int32} {lm : Nat → Nat → Int64} (o2 : Option Value)  : zeRun 76 47 [some (.ref 32), some (.ref 26), o2] [] (zk B im lm) = zeRun 76 49 [some (.ref 32), some (.ref 26), some (.int 0)] [] (zk B im lm) := ze_go (ok := true) rfl 2 rfl rfl
theorem d_76_13 {B : zeB} {im : Nat → Nat → Int32} {lm : Nat → Nat → Int64} (l2 : Int32) (c0 : zeInb l2 6 = true) (c1 : zeInb l2 6 = true) (c2 : zeInb l2 6 = true) (c3 : zeInb l2 6 = true) : zeRun 76 13 [some (.ref 32), some (.ref 26), some (.int l2)] [] (zk B im lm) = zeRun 76 7 [some (.ref 32), some (.ref 26), some (.int (l2 + 1))] [] (zk B (zeU2 (zeU2 (zeU2 (zeU2 im 33 (Int32.toNatClampNeg l2) 0) 34 (Int32.toNatClampNeg l2) 0) 35 (Int32.toNatClampNeg l2) 0) 36 (Int32.toNatClampNeg l2) 0) lm) := ze_go (ok := (zeInb l2 6 && (zeInb l2 6 && (zeInb l2 6 && (zeInb l2 6 && true))))) rfl 22 rfl (zeA2 c3 (zeA2 c2 (zeA2 c1 (zeA2 c0 rfl))))
theorem d_76_49 {B : zeB} {im : Nat → Nat → Int32} {lm : Nat → Nat → Int64} (l2 : Int32)  : zeRun 76 49 [some (.ref 32), some (.ref 26), some (.int l2)] [] (zk B im lm) = if 25 ≤ l2 then zeRun 76 69 [some (.ref 32), some (.ref 26), some (.int l2)] [] (zk B im lm) else zeRun 76 55 [some (.ref 32), some (.ref 26), some (.int l2)] [] (zk B im lm) := ze_if (ok := true) rfl 3 rfl rfl
theorem d_76_69 {B : zeB} {im : Nat → Nat → Int32} {lm : Nat → Nat → Int64} (o2 : Option Value)  : zeRun 76 69 [some (.ref 32), some (.ref 26), o2] [] (zk B im lm) = zeRun 76 71 [some (.ref 32), some (.ref 26), some (.int 0)] [] (zk B im lm) := ze_go (ok := true) rfl 2 rfl rfl
theorem d_76_55 {B : zeB} {im : Nat → Nat → Int32} {lm : Nat → Nat → Int64} (l2 : Int32) (c0 : zeInb l2 25 = true) : zeRun 76 55 [some (.ref 32), some (.ref 26), some (.int l2)] [] (zk B im lm) = zeRun 76 49 [some (.ref 32), some (.ref 26), some (.int (l2 + 1))] [] (zk B (zeU2 im 37 (Int32.toNatClampNeg l2) (-10000005)) lm) := ze_go (ok := (zeInb l2 25 && true)) rfl 7 rfl (zeA2 c0 rfl)
theorem d_76_71 {B : zeB} {im : Nat → Nat → Int32} {lm : Nat → Nat → Int64} (l2 : Int32)  : zeRun 76 71 [some (.ref 32), some (.ref 26), some (.int l2)] [] (zk B im lm) = if (im 26 0) ≤ l2 then zeRun 76 91 [some (.ref 32), some (.ref 26), some (.int l2)] [] (zk B im lm) else zeRun 76 79 [some (.ref 32), some (.ref 26), some (.int l2)] [] (zk B im lm) := ze_if (ok := true) rfl 4 rfl rfl
theorem d_76_91 {B : zeB} {im : Nat → Nat → Int32} {lm : Nat → Nat → Int64} (o0 : Option Value) (o1 : Option Value) (o2 : Option Value)  : zeRun 76 91 [o0, o1, o2] [] (zk B im lm) = some (none, (zk B im lm)) := ze_ret (ok := true) rfl 1 rfl rfl
theorem d_76_79 {B : zeB} {im : Nat → Nat → Int32} {lm : Nat → Nat → Int64} (l2 : Int32)  : zeRun 76 79 [some (.ref 32), some (.ref 26), some (.int l2)] [] (zk B im lm) = zeBh 76 85 [some (.ref 32), some (.ref 26), some (.int l2)] [] (zeRun 75 0 [some (.ref 32), some (.ref 26), some (.int l2), none, none] [] (zk B im lm)) := ze_call (ok := true) rfl 4 rfl rfl rfl
theorem d_76_85 {B : zeB} {im : Nat → Nat → Int32} {lm : Nat → Nat → Int64} (l2 : Int32)  : zeRun 76 85 [some (.ref 32), some (.ref 26), some (.int l2)] [] (zk B im lm) = zeRun 76 71 [some (.ref 32), some (.ref 26), some (.int (l2 + 1))] [] (zk B im lm) := ze_go (ok := true) rfl 2 rfl rfl
def F_76_71  : Nat → Int32 → zI → zJ → zR
  | 0, _, _, _ => none
  | n + 1, l2, im, lm =>
    if (im 26 0) ≤ l2 then
      some (0, im, lm)
    else
      zBd (m_75 l2 im lm) fun _ im1 lm1 =>
      F_76_71  n (l2 + 1) im1 lm1
theorem F_76_71_ok {B : zeB} : ∀ (n : Nat) (l2 : Int32)  (im : zI) (lm : zJ), zL B 0 (F_76_71  n l2 im lm) (zeRun 76 71 [some (.ref 32), some (.ref 26), some (.int l2)] [] (zk B im lm)) := by
  intro n
  induction n with
  | zero => intros; exact zL_none
  | succ n ih =>
    intro l2 im lm
    unfold F_76_71
    refine zL_if (d_76_71 _) (fun h => ?_) (fun h => ?_)
    · skip
      exact zL_retv (d_76_91 _ _ _)
    · skip
      refine zL_bdv (d_76_79 _) (m_75_ok _ _ _) fun _ im1 lm1 => ?_
      refine zL_eq (d_76_85 _) ?_
      exact ih _ _ _
def F_76_49  : Nat → Int32 → zI → zJ → zR
  | 0, _, _, _ => none
  | n + 1, l2, im, lm =>
    if 25 ≤ l2 then
      F_76_71  2000 0 im lm
    else
      zCk (zeInb l2 25) <|
      F_76_49  n (l2 + 1) (zeU2 im 37 (Int32.toNatClampNeg l2) (-10000005)) lm
theorem F_76_49_ok {B : zeB} : ∀ (n : Nat) (l2 : Int32)  (im : zI) (lm : zJ), zL B 0 (F_76_49  n l2 im lm) (zeRun 76 49 [some (.ref 32), some (.ref 26), some (.int l2)] [] (zk B im lm)) := by
  intro n
  induction n with
  | zero => intros; exact zL_none
  | succ n ih =>
    intro l2 im lm
    unfold F_76_49
    refine zL_if (d_76_49 _) (fun h => ?_) (fun h => ?_)
    · skip
      refine zL_eq (d_76_69 _) ?_
      exact F_76_71_ok  _ _ _ _
    · skip
      refine zL_ck fun c1 => ?_
      refine zL_eq (d_76_55 _ c1) ?_
      exact ih _ _ _
def F_76_7  : Nat → Int32 → zI → zJ → zR
  | 0, _, _, _ => none
  | n + 1, l2, im, lm =>
    if 6 ≤ l2 then
      F_76_49  2000 0 im lm
    else
      zCk (zeInb l2 6) <|
      F_76_7  n (l2 + 1) (zeU2 (zeU2 (zeU2 (zeU2 im 33 (Int32.toNatClampNeg l2) 0) 34 (Int32.toNatClampNeg l2) 0) 35 (Int32.toNatClampNeg l2) 0) 36 (Int32.toNatClampNeg l2) 0) lm
theorem F_76_7_ok {B : zeB} : ∀ (n : Nat) (l2 : Int32)  (im : zI) (lm : zJ), zL B 0 (F_76_7  n l2 im lm) (zeRun 76 7 [some (.ref 32), some (.ref 26), some (.int l2)] [] (zk B im lm)) := by
  intro n
  induction n with
  | zero => intros; exact zL_none
  | succ n ih =>
    intro l2 im lm
    unfold F_76_7
    refine zL_if (d_76_7 _) (fun h => ?_) (fun h => ?_)
    · skip
      refine zL_eq (d_76_47 _) ?_
      exact F_76_49_ok  _ _ _ _
    · skip
      refine zL_ck fun c1 => ?_
      refine zL_eq (d_76_13 _ c1 c1 c1 c1) ?_
      exact ih _ _ _
def m_76  (im : zI) (lm : zJ) : zR :=
    F_76_7  2000 0 (zeU2 im 32 0 0) lm
theorem m_76_ok {B : zeB}  (im : zI) (lm : zJ) : zL B 0 (m_76  im lm) (zeRun 76 0 [some (.ref 32), some (.ref 26), none] [] (zk B im lm)) := by
  unfold m_76
  refine zL_eq (d_76_0 _) ?_
  exact F_76_7_ok  _ _ _ _
/-! X7_load_44 -/
theorem d_145_44_0 {B : zeB} {im : Nat → Nat → Int32} {lm : Nat → Nat → Int64}   : zeRun 145 0 [some (.ref 16), some (.ref 44)] [] (zk B im lm) = zeBh 145 8 [some (.ref 16), some (.ref 44)] [] (zeRun 14 0 [some (.ref 17), some (.ref 44)] [] (zk B im lm)) := ze_call (ok := true) rfl 4 rfl rfl rfl
theorem d_145_44_8 {B : zeB} {im : Nat → Nat → Int32} {lm : Nat → Nat → Int64} (o1 : Option Value)  : zeRun 145 8 [some (.ref 16), o1] [] (zk B im lm) = zeBh 145 22 [some (.ref 16), o1] [] (zeRun 76 0 [some (.ref 32), some (.ref 26), none] [] (zk B im lm)) := ze_call (ok := true) rfl 6 rfl rfl rfl
theorem d_145_44_22 {B : zeB} {im : Nat → Nat → Int32} {lm : Nat → Nat → Int64} (o0 : Option Value) (o1 : Option Value)  : zeRun 145 22 [o0, o1] [] (zk B im lm) = some (none, (zk B im lm)) := ze_ret (ok := true) rfl 1 rfl rfl
def m_145_44  (im : zI) (lm : zJ) : zR :=
    zBd (m_14_17_44  im lm) fun _ im1 lm1 =>
    zBd (m_76  im1 lm1) fun _ im2 lm2 =>
    some (0, im2, lm2)
theorem m_145_44_ok {B : zeB}  (im : zI) (lm : zJ) : zL B 0 (m_145_44  im lm) (zeRun 145 0 [some (.ref 16), some (.ref 44)] [] (zk B im lm)) := by
  unfold m_145_44
  refine zL_bdv d_145_44_0 (m_14_17_44_ok _ _) fun _ im1 lm1 => ?_
  refine zL_bdv (d_145_44_8 _) (m_76_ok _ _) fun _ im2 lm2 => ?_
  exact zL_retv (d_145_44_22 _ _)
/-! X7_load_59 -/
theorem d_145_59_0 {B : zeB} {im : Nat → Nat → Int32} {lm : Nat → Nat → Int64}   : zeRun 145 0 [some (.ref 16), some (.ref 59)] [] (zk B im lm) = zeBh 145 8 [some (.ref 16), some (.ref 59)] [] (zeRun 14 0 [some (.ref 17), some (.ref 59)] [] (zk B im lm)) := ze_call (ok := true) rfl 4 rfl rfl rfl
theorem d_145_59_8 {B : zeB} {im : Nat → Nat → Int32} {lm : Nat → Nat → Int64} (o1 : Option Value)  : zeRun 145 8 [some (.ref 16), o1] [] (zk B im lm) = zeBh 145 22 [some (.ref 16), o1] [] (zeRun 76 0 [some (.ref 32), some (.ref 26), none] [] (zk B im lm)) := ze_call (ok := true) rfl 6 rfl rfl rfl
theorem d_145_59_22 {B : zeB} {im : Nat → Nat → Int32} {lm : Nat → Nat → Int64} (o0 : Option Value) (o1 : Option Value)  : zeRun 145 22 [o0, o1] [] (zk B im lm) = some (none, (zk B im lm)) := ze_ret (ok := true) rfl 1 rfl rfl
def m_145_59  (im : zI) (lm : zJ) : zR :=
    zBd (m_14_17_59  im lm) fun _ im1 lm1 =>
    zBd (m_76  im1 lm1) fun _ im2 lm2 =>
    some (0, im2, lm2)
theorem m_145_59_ok {B : zeB}  (im : zI) (lm : zJ) : zL B 0 (m_145_59  im lm) (zeRun 145 0 [some (.ref 16), some (.ref 59)] [] (zk B im lm)) := by
  unfold m_145_59
  refine zL_bdv d_145_59_0 (m_14_17_59_ok _ _) fun _ im1 lm1 => ?_
  refine zL_bdv (d_145_59_8 _) (m_76_ok _ _) fun _ im2 lm2 => ?_
  exact zL_retv (d_145_59_22 _ _)
/-! X7_load_74 -/
theorem d_145_74_0 {B : zeB} {im : Nat → Nat → Int32} {lm : Nat → Nat → Int64}   : zeRun 145 0 [some (.ref 16), some (.ref 74)] [] (zk B im lm) = zeBh 145 8 [some (.ref 16), some (.ref 74)] [] (zeRun 14 0 [some (.ref 17), some (.ref 74)] [] (zk B im lm)) := ze_call (ok := true) rfl 4 rfl rfl rfl
theorem d_145_74_8 {B : zeB} {im : Nat → Nat → Int32} {lm : Nat → Nat → Int64} (o1 : Option Value)  : zeRun 145 8 [some (.ref 16), o1] [] (zk B im lm) = zeBh 145 22 [some (.ref 16), o1] [] (zeRun 76 0 [some (.ref 32), some (.ref 26), none] [] (zk B im lm)) := ze_call (ok := true) rfl 6 rfl rfl rfl
theorem d_145_74_22 {B : zeB} {im : Nat → Nat → Int32} {lm : Nat → Nat → Int64} (o0 : Option Value) (o1 : Option Value)  : zeRun 145 22 [o0, o1] [] (zk B im lm) = some (none, (zk B im lm)) := ze_ret (ok := true) rfl 1 rfl rfl
def m_145_74  (im : zI) (lm : zJ) : zR :=
    zBd (m_14_17_74  im lm) fun _ im1 lm1 =>
    zBd (m_76  im1 lm1) fun _ im2 lm2 =>
    some (0, im2, lm2)
theorem m_145_74_ok {B : zeB}  (im : zI) (lm : zJ) : zL B 0 (m_145_74  im lm) (zeRun 145 0 [some (.ref 16), some (.ref 74)] [] (zk B im lm)) := by
  unfold m_145_74
  refine zL_bdv d_145_74_0 (m_14_17_74_ok _ _) fun _ im1 lm1 => ?_
  refine zL_bdv (d_145_74_8 _) (m_76_ok _ _) fun _ im2 lm2 => ?_
  exact zL_retv (d_145_74_22 _ _)
/-! X7_load_89 -/
theorem d_145_89_0 {B : zeB} {im : Nat → Nat → Int32} {lm : Nat → Nat → Int64}   : zeRun 145 0 [some (.ref 16), some (.ref 89)] [] (zk B im lm) = zeBh 145 8 [some (.ref 16), some (.ref 89)] [] (zeRun 14 0 [some (.ref 17), some (.ref 89)] [] (zk B im lm)) := ze_call (ok := true) rfl 4 rfl rfl rfl
theorem d_145_89_8 {B : zeB} {im : Nat → Nat → Int32} {lm : Nat → Nat → Int64} (o1 : Option Value)  : zeRun 145 8 [some (.ref 16), o1] [] (zk B im lm) = zeBh 145 22 [some (.ref 16), o1] [] (zeRun 76 0 [some (.ref 32), some (.ref 26), none] [] (zk B im lm)) := ze_call (ok := true) rfl 6 rfl rfl rfl
theorem d_145_89_22 {B : zeB} {im : Nat → Nat → Int32} {lm : Nat → Nat → Int64} (o0 : Option Value) (o1 : Option Value)  : zeRun 145 22 [o0, o1] [] (zk B im lm) = some (none, (zk B im lm)) := ze_ret (ok := true) rfl 1 rfl rfl
def m_145_89  (im : zI) (lm : zJ) : zR :=
    zBd (m_14_17_89  im lm) fun _ im1 lm1 =>
    zBd (m_76  im1 lm1) fun _ im2 lm2 =>
    some (0, im2, lm2)
theorem m_145_89_ok {B : zeB}  (im : zI) (lm : zJ) : zL B 0 (m_145_89  im lm) (zeRun 145 0 [some (.ref 16), some (.ref 89)] [] (zk B im lm)) := by
  unfold m_145_89
  refine zL_bdv d_145_89_0 (m_14_17_89_ok _ _) fun _ im1 lm1 => ?_
  refine zL_bdv (d_145_89_8 _) (m_76_ok _ _) fun _ im2 lm2 => ?_
  exact zL_retv (d_145_89_22 _ _)
