/-! pure: X7_load_104, X7_load_119, X7_load_135, X7_load_150, X7_undo, X7_isSlot, X1_prepare, X1_commit, X7_restore, X7_keep, X7_refused, X0_begin, X0_members, X7_doBeginFinal, X7_isError, X7_recorded, X7_beginFinal, J6_bitCount_0f7a4, X7_isClueUnderWay, X7_controller -/
/-! X7_load_104 -/
theorem d_145_104_0 {B : zeB} {im : Nat → Nat → Int32} {lm : Nat → Nat → Int64}   : zeRun 145 0 [some (.ref 16), some (.ref 104)] [] (zk B im lm) = zeBh 145 8 [some (.ref 16), some (.ref 104)] [] (zeRun 14 0 [some (.ref 17), some (.ref 104)] [] (zk B im lm)) := ze_call (ok := true) rfl 4 rfl rfl rfl
theorem d_145_104_8 {B : zeB} {im : Nat → Nat → Int32} {lm : Nat → Nat → Int64} (o1 : Option Value)  : zeRun 145 8 [some (.ref 16), o1] [] (zk B im lm) = zeBh 145 22 [some (.ref 16), o1] [] (zeRun 76 0 [some (.ref 32), some (.ref 26), none] [] (zk B im lm)) := ze_call (ok := true) rfl 6 rfl rfl rfl
theorem d_145_104_22 {B : zeB} {im : Nat → Nat → Int32} {lm : Nat → Nat → Int64} (o0 : Option Value) (o1 : Option Value)  : zeRun 145 22 [o0, o1] [] (zk B im lm) = some (none, (zk B im lm)) := ze_ret (ok := true) rfl 1 rfl rfl
def m_145_104  (im : zI) (lm : zJ) : zR :=
    zBd (m_14_17_104  im lm) fun _ im1 lm1 =>
    zBd (m_76  im1 lm1) fun _ im2 lm2 =>
    some (0, im2, lm2)
theorem m_145_104_ok {B : zeB}  (im : zI) (lm : zJ) : zL B 0 (m_145_104  im lm) (zeRun 145 0 [some (.ref 16), some (.ref 104)] [] (zk B im lm)) := by
  unfold m_145_104
  refine zL_bdv d_145_104_0 (m_14_17_104_ok _ _) fun _ im1 lm1 => ?_
  refine zL_bdv (d_145_104_8 _) (m_76_ok _ _) fun _ im2 lm2 => ?_
  exact zL_retv (d_145_104_22 _ _)
/-! X7_load_119 -/
theorem d_145_119_0 {B : zeB} {im : Nat → Nat → Int32} {lm : Nat → Nat → Int64}   : zeRun 145 0 [some (.ref 16), some (.ref 119)] [] (zk B im lm) = zeBh 145 8 [some (.ref 16), some (.ref 119)] [] (zeRun 14 0 [some (.ref 17), some (.ref 119)] [] (zk B im lm)) := ze_call (ok := true) rfl 4 rfl rfl rfl
theorem d_145_119_8 {B : zeB} {im : Nat → Nat → Int32} {lm : Nat → Nat → Int64} (o1 : Option Value)  : zeRun 145 8 [some (.ref 16), o1] [] (zk B im lm) = zeBh 145 22 [some (.ref 16), o1] [] (zeRun 76 0 [some (.ref 32), some (.ref 26), none] [] (zk B im lm)) := ze_call (ok := true) rfl 6 rfl rfl rfl
theorem d_145_119_22 {B : zeB} {im : Nat → Nat → Int32} {lm : Nat → Nat → Int64} (o0 : Option Value) (o1 : Option Value)  : zeRun 145 22 [o0, o1] [] (zk B im lm) = some (none, (zk B im lm)) := ze_ret (ok := true) rfl 1 rfl rfl
def m_145_119  (im : zI) (lm : zJ) : zR :=
    zBd (m_14_17_119  im lm) fun _ im1 lm1 =>
    zBd (m_76  im1 lm1) fun _ im2 lm2 =>
    some (0, im2, lm2)
theorem m_145_119_ok {B : zeB}  (im : zI) (lm : zJ) : zL B 0 (m_145_119  im lm) (zeRun 145 0 [some (.ref 16), some (.ref 119)] [] (zk B im lm)) := by
  unfold m_145_119
  refine zL_bdv d_145_119_0 (m_14_17_119_ok _ _) fun _ im1 lm1 => ?_
  refine zL_bdv (d_145_119_8 _) (m_76_ok _ _) fun _ im2 lm2 => ?_
  exact zL_retv (d_145_119_22 _ _)
/-! X7_load_135 -/
theorem d_145_135_0 {B : zeB} {im : Nat → Nat → Int32} {lm : Nat → Nat → Int64}   : zeRun 145 0 [some (.ref 16), some (.ref 135)] [] (zk B im lm) = zeBh 145 8 [some (.ref 16), some (.ref 135)] [] (zeRun 14 0 [some (.ref 17), some (.ref 135)] [] (zk B im lm)) := ze_call (ok := true) rfl 4 rfl rfl rfl
theorem d_145_135_8 {B : zeB} {im : Nat → Nat → Int32} {lm : Nat → Nat → Int64} (o1 : Option Value)  : zeRun 145 8 [some (.ref 16), o1] [] (zk B im lm) = zeBh 145 22 [some (.ref 16), o1] [] (zeRun 76 0 [some (.ref 32), some (.ref 26), none] [] (zk B im lm)) := ze_call (ok := true) rfl 6 rfl rfl rfl
theorem d_145_135_22 {B : zeB} {im : Nat → Nat → Int32} {lm : Nat → Nat → Int64} (o0 : Option Value) (o1 : Option Value)  : zeRun 145 22 [o0, o1] [] (zk B im lm) = some (none, (zk B im lm)) := ze_ret (ok := true) rfl 1 rfl rfl
def m_145_135  (im : zI) (lm : zJ) : zR :=
    zBd (m_14_17_135  im lm) fun _ im1 lm1 =>
    zBd (m_76  im1 lm1) fun _ im2 lm2 =>
    some (0, im2, lm2)
theorem m_145_135_ok {B : zeB}  (im : zI) (lm : zJ) : zL B 0 (m_145_135  im lm) (zeRun 145 0 [some (.ref 16), some (.ref 135)] [] (zk B im lm)) := by
  unfold m_145_135
  refine zL_bdv d_145_135_0 (m_14_17_135_ok _ _) fun _ im1 lm1 => ?_
  refine zL_bdv (d_145_135_8 _) (m_76_ok _ _) fun _ im2 lm2 => ?_
  exact zL_retv (d_145_135_22 _ _)
/-! X7_load_150 -/
theorem d_145_150_0 {B : zeB} {im : Nat → Nat → Int32} {lm : Nat → Nat → Int64}   : zeRun 145 0 [some (.ref 16), some (.ref 150)] [] (zk B im lm) = zeBh 145 8 [some (.ref 16), some (.ref 150)] [] (zeRun 14 0 [some (.ref 17), some (.ref 150)] [] (zk B im lm)) := ze_call (ok := true) rfl 4 rfl rfl rfl
theorem d_145_150_8 {B : zeB} {im : Nat → Nat → Int32} {lm : Nat → Nat → Int64} (o1 : Option Value)  : zeRun 145 8 [some (.ref 16), o1] [] (zk B im lm) = zeBh 145 22 [some (.ref 16), o1] [] (zeRun 76 0 [some (.ref 32), some (.ref 26), none] [] (zk B im lm)) := ze_call (ok := true) rfl 6 rfl rfl rfl
theorem d_145_150_22 {B : zeB} {im : Nat → Nat → Int32} {lm : Nat → Nat → Int64} (o0 : Option Value) (o1 : Option Value)  : zeRun 145 22 [o0, o1] [] (zk B im lm) = some (none, (zk B im lm)) := ze_ret (ok := true) rfl 1 rfl rfl
def m_145_150  (im : zI) (lm : zJ) : zR :=
    zBd (m_14_17_150  im lm) fun _ im1 lm1 =>
    zBd (m_76  im1 lm1) fun _ im2 lm2 =>
    some (0, im2, lm2)
theorem m_145_150_ok {B : zeB}  (im : zI) (lm : zJ) : zL B 0 (m_145_150  im lm) (zeRun 145 0 [some (.ref 16), some (.ref 150)] [] (zk B im lm)) := by
  unfold m_145_150
  refine zL_bdv d_145_150_0 (m_14_17_150_ok _ _) fun _ im1 lm1 => ?_
  refine zL_bdv (d_145_150_8 _) (m_76_ok _ _) fun _ im2 lm2 => ?_
  exact zL_retv (d_145_150_22 _ _)
/-! X7_undo -/
theorem d_146_0 {B : zeB} {im : Nat → Nat → Int32} {lm : Nat → Nat → Int64}   : zeRun 146 0 [some (.ref 16)] [] (zk B im lm) = if (im 42 0) = 0 then zeRun 146 10 [some (.ref 16)] [] (zk B im lm) else zeRun 146 13 [some (.ref 16)] [] (zk B im lm) := ze_if (ok := true) rfl 4 rfl rfl
theorem d_146_10 {B : zeB} {im : Nat → Nat → Int32} {lm : Nat → Nat → Int64} (o0 : Option Value)  : zeRun 146 10 [o0] [] (zk B im lm) = some (some (.int (-10000005)), (zk B im lm)) := ze_ret (ok := true) rfl 2 rfl rfl
theorem d_146_13 {B : zeB} {im : Nat → Nat → Int32} {lm : Nat → Nat → Int64}   : zeRun 146 13 [some (.ref 16)] [] (zk B im lm) = zeBh 146 21 [some (.ref 16)] [.ref 16] (zeRun 144 0 [some (.ref 42)] [] (zk B im lm)) := ze_call (ok := true) rfl 4 rfl rfl rfl
theorem d_146_21 {B : zeB} {im : Nat → Nat → Int32} {lm : Nat → Nat → Int64}   : zeRun 146 21 [some (.ref 16)] [.ref 44, .ref 16] (zk B im lm) = zeBh 146 24 [some (.ref 16)] [] (zeRun 145 0 [some (.ref 16), some (.ref 44)] [] (zk B im lm)) := ze_call (ok := true) rfl 1 rfl rfl rfl
theorem d_146_24 {B : zeB} {im : Nat → Nat → Int32} {lm : Nat → Nat → Int64}   : zeRun 146 24 [some (.ref 16)] [] (zk B im lm) = some (some (.int (im 42 0)), (zk B im lm)) := ze_ret (ok := true) rfl 4 rfl rfl
theorem d_146_21_2 {B : zeB} {im : Nat → Nat → Int32} {lm : Nat → Nat → Int64}   : zeRun 146 21 [some (.ref 16)] [.ref 59, .ref 16] (zk B im lm) = zeBh 146 24 [some (.ref 16)] [] (zeRun 145 0 [some (.ref 16), some (.ref 59)] [] (zk B im lm)) := ze_call (ok := true) rfl 1 rfl rfl rfl
theorem d_146_21_3 {B : zeB} {im : Nat → Nat → Int32} {lm : Nat → Nat → Int64}   : zeRun 146 21 [some (.ref 16)] [.ref 74, .ref 16] (zk B im lm) = zeBh 146 24 [some (.ref 16)] [] (zeRun 145 0 [some (.ref 16), some (.ref 74)] [] (zk B im lm)) := ze_call (ok := true) rfl 1 rfl rfl rfl
theorem d_146_21_4 {B : zeB} {im : Nat → Nat → Int32} {lm : Nat → Nat → Int64}   : zeRun 146 21 [some (.ref 16)] [.ref 89, .ref 16] (zk B im lm) = zeBh 146 24 [some (.ref 16)] [] (zeRun 145 0 [some (.ref 16), some (.ref 89)] [] (zk B im lm)) := ze_call (ok := true) rfl 1 rfl rfl rfl
theorem d_146_21_5 {B : zeB} {im : Nat → Nat → Int32} {lm : Nat → Nat → Int64}   : zeRun 146 21 [some (.ref 16)] [.ref 104, .ref 16] (zk B im lm) = zeBh 146 24 [some (.ref 16)] [] (zeRun 145 0 [some (.ref 16), some (.ref 104)] [] (zk B im lm)) := ze_call (ok := true) rfl 1 rfl rfl rfl
theorem d_146_21_6 {B : zeB} {im : Nat → Nat → Int32} {lm : Nat → Nat → Int64}   : zeRun 146 21 [some (.ref 16)] [.ref 119, .ref 16] (zk B im lm) = zeBh 146 24 [some (.ref 16)] [] (zeRun 145 0 [some (.ref 16), some (.ref 119)] [] (zk B im lm)) := ze_call (ok := true) rfl 1 rfl rfl rfl
def m_146  (im : zI) (lm : zJ) : zR :=
    if (im 42 0) = 0 then
      some ((-10000005), im, lm)
    else
      zBd (m_144  im lm) fun v1 im1 lm1 =>
      if Int32.toNatClampNeg v1 = 44 then
        zBd (m_145_44  im1 lm1) fun _ im2 lm2 =>
        some ((im2 42 0), im2, lm2)
      else
      if Int32.toNatClampNeg v1 = 59 then
        zBd (m_145_59  im1 lm1) fun _ im3 lm3 =>
        some ((im3 42 0), im3, lm3)
      else
      if Int32.toNatClampNeg v1 = 74 then
        zBd (m_145_74  im1 lm1) fun _ im4 lm4 =>
        some ((im4 42 0), im4, lm4)
      else
      if Int32.toNatClampNeg v1 = 89 then
        zBd (m_145_89  im1 lm1) fun _ im5 lm5 =>
        some ((im5 42 0), im5, lm5)
      else
      if Int32.toNatClampNeg v1 = 104 then
        zBd (m_145_104  im1 lm1) fun _ im6 lm6 =>
        some ((im6 42 0), im6, lm6)
      else
      if Int32.toNatClampNeg v1 = 119 then
        zBd (m_145_119  im1 lm1) fun _ im7 lm7 =>
        some ((im7 42 0), im7, lm7)
      else
      none
theorem m_146_ok {B : zeB}  (im : zI) (lm : zJ) : zL B 1 (m_146  im lm) (zeRun 146 0 [some (.ref 16)] [] (zk B im lm)) := by
  unfold m_146
  refine zL_if d_146_0 (fun h => ?_) (fun h => ?_)
  · skip
    exact zL_ret (d_146_10 _)
  · skip
    refine zL_bdr d_146_13 (m_144_ok _ _) fun v1 im1 lm1 => ?_
    refine zL_aa (fun h => ?_) (fun h => ?_)
    · rw [h]
      refine zL_bdv d_146_21 (m_145_44_ok _ _) fun _ im2 lm2 => ?_
      exact zL_ret d_146_24
    refine zL_aa (fun h => ?_) (fun h => ?_)
    · rw [h]
      refine zL_bdv d_146_21_2 (m_145_59_ok _ _) fun _ im3 lm3 => ?_
      exact zL_ret d_146_24
    refine zL_aa (fun h => ?_) (fun h => ?_)
    · rw [h]
      refine zL_bdv d_146_21_3 (m_145_74_ok _ _) fun _ im4 lm4 => ?_
      exact zL_ret d_146_24
    refine zL_aa (fun h => ?_) (fun h => ?_)
    · rw [h]
      refine zL_bdv d_146_21_4 (m_145_89_ok _ _) fun _ im5 lm5 => ?_
      exact zL_ret d_146_24
    refine zL_aa (fun h => ?_) (fun h => ?_)
    · rw [h]
      refine zL_bdv d_146_21_5 (m_145_104_ok _ _) fun _ im6 lm6 => ?_
      exact zL_ret d_146_24
    refine zL_aa (fun h => ?_) (fun h => ?_)
    · rw [h]
      refine zL_bdv d_146_21_6 (m_145_119_ok _ _) fun _ im7 lm7 => ?_
      exact zL_ret d_146_24
    exact zL_none
/-! X7_isSlot -/
theorem d_148_0 {B : zeB} {im : Nat → Nat → Int32} {lm : Nat → Nat → Int64} (l0 : Int32)  : zeRun 148 0 [some (.int l0)] [] (zk B im lm) = if l0 < 0 then zeRun 148 13 [some (.int l0)] [] (zk B im lm) else zeRun 148 4 [some (.int l0)] [] (zk B im lm) := ze_if (ok := true) rfl 2 rfl rfl
theorem d_148_13 {B : zeB} {im : Nat → Nat → Int32} {lm : Nat → Nat → Int64} (o0 : Option Value)  : zeRun 148 13 [o0] [] (zk B im lm) = some (some (.int 0), (zk B im lm)) := ze_ret (ok := true) rfl 2 rfl rfl
theorem d_148_4 {B : zeB} {im : Nat → Nat → Int32} {lm : Nat → Nat → Int64} (l0 : Int32)  : zeRun 148 4 [some (.int l0)] [] (zk B im lm) = if 2 ≤ l0 then zeRun 148 13 [some (.int l0)] [] (zk B im lm) else zeRun 148 9 [some (.int l0)] [] (zk B im lm) := ze_if (ok := true) rfl 3 rfl rfl
theorem d_148_9 {B : zeB} {im : Nat → Nat → Int32} {lm : Nat → Nat → Int64} (o0 : Option Value)  : zeRun 148 9 [o0] [] (zk B im lm) = some (some (.int 1), (zk B im lm)) := ze_ret (ok := true) rfl 3 rfl rfl
def m_148 (l0 : Int32) (im : zI) (lm : zJ) : zR :=
    some (if l0 < 0 then 0 else if 2 ≤ l0 then 0 else 1, im, lm)
theorem m_148_ok {B : zeB} (l0 : Int32) (im : zI) (lm : zJ) : zL B 1 (m_148 l0 im lm) (zeRun 148 0 [some (.int l0)] [] (zk B im lm)) := by
  unfold m_148
  refine zL_ifm (d_148_0 _) (fun h => ?_) (fun h => ?_)
  · repeat rw [if_pos h]
    exact zL_ret (d_148_13 _)
  · repeat rw [if_neg h]
    refine zL_ifm (d_148_4 _) (fun h => ?_) (fun h => ?_)
    · repeat rw [if_pos h]
      exact zL_ret (d_148_13 _)
    · repeat rw [if_neg h]
      exact zL_ret (d_148_9 _)
/-! X1_prepare -/
theorem d_15_0 {B : zeB} {im : Nat → Nat → Int32} {lm : Nat → Nat → Int64}   : zeRun 15 0 [some (.ref 42), some (.ref 17)] [] (zk B im lm) = zeRun 15 8 [some (.ref 42), some (.ref 17)] [.int (im 42 1), .ref 43] (zk B im lm) := ze_go (ok := true) rfl 4 rfl rfl
theorem d_15_8_0 {B : zeB} {im : Nat → Nat → Int32} {lm : Nat → Nat → Int64} (o0 : Option Value) (s1 : Int32) (c0 : zeInb s1 6 = true) (hx : Int32.toNatClampNeg s1 = 0) : zeRun 15 8 [o0, some (.ref 17)] [.int s1, .ref 43] (zk B im lm) = zeRun 15 9 [o0, some (.ref 17)] [.ref 44] (zk B im lm) := by
  have hy := (ze_go (i := 15) rfl 1 rfl (zeA2 c0 rfl) : zeRun 15 8 [o0, some (.ref 17)] [.int s1, .ref 43] (zk B im lm) = _)
  exact hy.trans (by rw [hx]; rfl)
theorem d_15_8_1 {B : zeB} {im : Nat → Nat → Int32} {lm : Nat → Nat → Int64} (o0 : Option Value) (s1 : Int32) (c0 : zeInb s1 6 = true) (hx : Int32.toNatClampNeg s1 = 1) : zeRun 15 8 [o0, some (.ref 17)] [.int s1, .ref 43] (zk B im lm) = zeRun 15 9 [o0, some (.ref 17)] [.ref 59] (zk B im lm) := by
  have hy := (ze_go (i := 15) rfl 1 rfl (zeA2 c0 rfl) : zeRun 15 8 [o0, some (.ref 17)] [.int s1, .ref 43] (zk B im lm) = _)
  exact hy.trans (by rw [hx]; rfl)
theorem d_15_8_2 {B : zeB} {im : Nat → Nat → Int32} {lm : Nat → Nat → Int64} (o0 : Option Value) (s1 : Int32) (c0 : zeInb s1 6 = true) (hx : Int32.toNatClampNeg s1 = 2) : zeRun 15 8 [o0, some (.ref 17)] [.int s1, .ref 43] (zk B im lm) = zeRun 15 9 [o0, some (.ref 17)] [.ref 74] (zk B im lm) := by
  have hy := (ze_go (i := 15) rfl 1 rfl (zeA2 c0 rfl) : zeRun 15 8 [o0, some (.ref 17)] [.int s1, .ref 43] (zk B im lm) = _)
  exact hy.trans (by rw [hx]; rfl)
theorem d_15_8_3 {B : zeB} {im : Nat → Nat → Int32} {lm : Nat → Nat → Int64} (o0 : Option Value) (s1 : Int32) (c0 : zeInb s1 6 = true) (hx : Int32.toNatClampNeg s1 = 3) : zeRun 15 8 [o0, some (.ref 17)] [.int s1, .ref 43] (zk B im lm) = zeRun 15 9 [o0, some (.ref 17)] [.ref 89] (zk B im lm) := by
  have hy := (ze_go (i := 15) rfl 1 rfl (zeA2 c0 rfl) : zeRun 15 8 [o0, some (.ref 17)] [.int s1, .ref 43] (zk B im lm) = _)
  exact hy.trans (by rw [hx]; rfl)
theorem d_15_8_4 {B : zeB} {im : Nat → Nat → Int32} {lm : Nat → Nat → Int64} (o0 : Option Value) (s1 : Int32) (c0 : zeInb s1 6 = true) (hx : Int32.toNatClampNeg s1 = 4) : zeRun 15 8 [o0, some (.ref 17)] [.int s1, .ref 43] (zk B im lm) = zeRun 15 9 [o0, some (.ref 17)] [.ref 104] (zk B im lm) := by
  have hy := (ze_go (i := 15) rfl 1 rfl (zeA2 c0 rfl) : zeRun 15 8 [o0, some (.ref 17)] [.int s1, .ref 43] (zk B im lm) = _)
  exact hy.trans (by rw [hx]; rfl)
theorem d_15_8_5 {B : zeB} {im : Nat → Nat → Int32} {lm : Nat → Nat → Int64} (o0 : Option Value) (s1 : Int32) (c0 : zeInb s1 6 = true) (hx : Int32.toNatClampNeg s1 = 5) : zeRun 15 8 [o0, some (.ref 17)] [.int s1, .ref 43] (zk B im lm) = zeRun 15 9 [o0, some (.ref 17)] [.ref 119] (zk B im lm) := by
  have hy := (ze_go (i := 15) rfl 1 rfl (zeA2 c0 rfl) : zeRun 15 8 [o0, some (.ref 17)] [.int s1, .ref 43] (zk B im lm) = _)
  exact hy.trans (by rw [hx]; rfl)
theorem d_15_9 {B : zeB} {im : Nat → Nat → Int32} {lm : Nat → Nat → Int64} (o0 : Option Value)  : zeRun 15 9 [o0, some (.ref 17)] [.ref 44] (zk B im lm) = zeBh 15 13 [o0, some (.ref 17)] [] (zeRun 14 0 [some (.ref 44), some (.ref 17)] [] (zk B im lm)) := ze_call (ok := true) rfl 2 rfl rfl rfl
theorem d_15_13 {B : zeB} {im : Nat → Nat → Int32} {lm : Nat → Nat → Int64} (o0 : Option Value) (o1 : Option Value)  : zeRun 15 13 [o0, o1] [] (zk B im lm) = some (none, (zk B im lm)) := ze_ret (ok := true) rfl 1 rfl rfl
theorem d_15_9_2 {B : zeB} {im : Nat → Nat → Int32} {lm : Nat → Nat → Int64} (o0 : Option Value)  : zeRun 15 9 [o0, some (.ref 17)] [.ref 59] (zk B im lm) = zeBh 15 13 [o0, some (.ref 17)] [] (zeRun 14 0 [some (.ref 59), some (.ref 17)] [] (zk B im lm)) := ze_call (ok := true) rfl 2 rfl rfl rfl
theorem d_15_9_3 {B : zeB} {im : Nat → Nat → Int32} {lm : Nat → Nat → Int64} (o0 : Option Value)  : zeRun 15 9 [o0, some (.ref 17)] [.ref 74] (zk B im lm) = zeBh 15 13 [o0, some (.ref 17)] [] (zeRun 14 0 [some (.ref 74), some (.ref 17)] [] (zk B im lm)) := ze_call (ok := true) rfl 2 rfl rfl rfl
theorem d_15_9_4 {B : zeB} {im : Nat → Nat → Int32} {lm : Nat → Nat → Int64} (o0 : Option Value)  : zeRun 15 9 [o0, some (.ref 17)] [.ref 89] (zk B im lm) = zeBh 15 13 [o0, some (.ref 17)] [] (zeRun 14 0 [some (.ref 89), some (.ref 17)] [] (zk B im lm)) := ze_call (ok := true) rfl 2 rfl rfl rfl
theorem d_15_9_5 {B : zeB} {im : Nat → Nat → Int32} {lm : Nat → Nat → Int64} (o0 : Option Value)  : zeRun 15 9 [o0, some (.ref 17)] [.ref 104] (zk B im lm) = zeBh 15 13 [o0, some (.ref 17)] [] (zeRun 14 0 [some (.ref 104), some (.ref 17)] [] (zk B im lm)) := ze_call (ok := true) rfl 2 rfl rfl rfl
theorem d_15_9_6 {B : zeB} {im : Nat → Nat → Int32} {lm : Nat → Nat → Int64} (o0 : Option Value)  : zeRun 15 9 [o0, some (.ref 17)] [.ref 119] (zk B im lm) = zeBh 15 13 [o0, some (.ref 17)] [] (zeRun 14 0 [some (.ref 119), some (.ref 17)] [] (zk B im lm)) := ze_call (ok := true) rfl 2 rfl rfl rfl
def m_15  (im : zI) (lm : zJ) : zR :=
    zCk (zeInb (im 42 1) 6) <|
    if Int32.toNatClampNeg (im 42 1) = 0 then
      zBd (m_14_44_17  im lm) fun _ im1 lm1 =>
      some (0, im1, lm1)
    else
    if Int32.toNatClampNeg (im 42 1) = 1 then
      zBd (m_14_59_17  im lm) fun _ im2 lm2 =>
      some (0, im2, lm2)
    else
    if Int32.toNatClampNeg (im 42 1) = 2 then
      zBd (m_14_74_17  im lm) fun _ im3 lm3 =>
      some (0, im3, lm3)
    else
    if Int32.toNatClampNeg (im 42 1) = 3 then
      zBd (m_14_89_17  im lm) fun _ im4 lm4 =>
      some (0, im4, lm4)
    else
    if Int32.toNatClampNeg (im 42 1) = 4 then
      zBd (m_14_104_17  im lm) fun _ im5 lm5 =>
      some (0, im5, lm5)
    else
    if Int32.toNatClampNeg (im 42 1) = 5 then
      zBd (m_14_119_17  im lm) fun _ im6 lm6 =>
      some (0, im6, lm6)
    else
    none
theorem m_15_ok {B : zeB}  (im : zI) (lm : zJ) : zL B 0 (m_15  im lm) (zeRun 15 0 [some (.ref 42), some (.ref 17)] [] (zk B im lm)) := by
  unfold m_15
  refine zL_eq d_15_0 ?_
  refine zL_ck fun c1 => ?_
  refine zL_aa (fun h => ?_) (fun h => ?_)
  · refine zL_eq (d_15_8_0 _ _ c1 h) ?_
    refine zL_bdv (d_15_9 _) (m_14_44_17_ok _ _) fun _ im1 lm1 => ?_
    exact zL_retv (d_15_13 _ _)
  refine zL_aa (fun h => ?_) (fun h => ?_)
  · refine zL_eq (d_15_8_1 _ _ c1 h) ?_
    refine zL_bdv (d_15_9_2 _) (m_14_59_17_ok _ _) fun _ im2 lm2 => ?_
    exact zL_retv (d_15_13 _ _)
  refine zL_aa (fun h => ?_) (fun h => ?_)
  · refine zL_eq (d_15_8_2 _ _ c1 h) ?_
    refine zL_bdv (d_15_9_3 _) (m_14_74_17_ok _ _) fun _ im3 lm3 => ?_
    exact zL_retv (d_15_13 _ _)
  refine zL_aa (fun h => ?_) (fun h => ?_)
  · refine zL_eq (d_15_8_3 _ _ c1 h) ?_
    refine zL_bdv (d_15_9_4 _) (m_14_89_17_ok _ _) fun _ im4 lm4 => ?_
    exact zL_retv (d_15_13 _ _)
  refine zL_aa (fun h => ?_) (fun h => ?_)
  · refine zL_eq (d_15_8_4 _ _ c1 h) ?_
    refine zL_bdv (d_15_9_5 _) (m_14_104_17_ok _ _) fun _ im5 lm5 => ?_
    exact zL_retv (d_15_13 _ _)
  refine zL_aa (fun h => ?_) (fun h => ?_)
  · refine zL_eq (d_15_8_5 _ _ c1 h) ?_
    refine zL_bdv (d_15_9_6 _) (m_14_119_17_ok _ _) fun _ im6 lm6 => ?_
    exact zL_retv (d_15_13 _ _)
  exact zL_none
/-! X1_commit -/
theorem d_20_0 {B : zeB} {im : Nat → Nat → Int32} {lm : Nat → Nat → Int64}   : zeRun 20 0 [some (.ref 42)] [] (zk B im lm) = if (im 42 1) = 5 then zeRun 20 9 [some (.ref 42)] [.ref 42] (zk B im lm) else zeRun 20 13 [some (.ref 42)] [.ref 42] (zk B im lm) := ze_if (ok := true) rfl 5 rfl rfl
theorem d_20_9 {B : zeB} {im : Nat → Nat → Int32} {lm : Nat → Nat → Int64}   : zeRun 20 9 [some (.ref 42)] [.ref 42] (zk B im lm) = zeRun 20 19 [some (.ref 42)] [.int 0, .ref 42] (zk B im lm) := ze_go (ok := true) rfl 2 rfl rfl
theorem d_20_13 {B : zeB} {im : Nat → Nat → Int32} {lm : Nat → Nat → Int64}   : zeRun 20 13 [some (.ref 42)] [.ref 42] (zk B im lm) = zeRun 20 19 [some (.ref 42)] [.int ((im 42 1) + 1), .ref 42] (zk B im lm) := ze_go (ok := true) rfl 4 rfl rfl
theorem d_20_19 {B : zeB} {im : Nat → Nat → Int32} {lm : Nat → Nat → Int64} (s1 : Int32)  : zeRun 20 19 [some (.ref 42)] [.int s1, .ref 42] (zk B im lm) = if 5 ≤ (im 42 0) then zeRun 20 40 [some (.ref 42)] [] (zk B (zeU2 im 42 1 s1) lm) else zeRun 20 30 [some (.ref 42)] [] (zk B (zeU2 im 42 1 s1) lm) := ze_if (ok := true) rfl 5 rfl rfl
theorem d_20_40 {B : zeB} {im : Nat → Nat → Int32} {lm : Nat → Nat → Int64} (o0 : Option Value)  : zeRun 20 40 [o0] [] (zk B im lm) = some (none, (zk B im lm)) := ze_ret (ok := true) rfl 1 rfl rfl
theorem d_20_30 {B : zeB} {im : Nat → Nat → Int32} {lm : Nat → Nat → Int64}   : zeRun 20 30 [some (.ref 42)] [] (zk B im lm) = some (none, (zk B (zeU2 im 42 0 ((im 42 0) + 1)) lm)) := ze_ret (ok := true) rfl 7 rfl rfl
def J_20_19  (s1 : Int32) (im : zI) (lm : zJ) : zR :=
    some (0, if 5 ≤ (im 42 0) then (zeU2 im 42 1 s1) else (zeU2 (zeU2 im 42 1 s1) 42 0 (((zeU2 im 42 1 s1) 42 0) + 1)), lm)
theorem J_20_19_ok {B : zeB} (s1 : Int32)  (im : zI) (lm : zJ) : zL B 0 (J_20_19  s1 im lm) (zeRun 20 19 [some (.ref 42)] [.int s1, .ref 42] (zk B im lm)) := by
  unfold J_20_19
  refine zL_ifm (d_20_19 _) (fun h => ?_) (fun h => ?_)
  · repeat rw [if_pos h]
    exact zL_retv (d_20_40 _)
  · repeat rw [if_neg h]
    exact zL_retv d_20_30
def m_20  (im : zI) (lm : zJ) : zR :=
    J_20_19   (if (im 42 1) = 5 then 0 else ((im 42 1) + 1)) im lm
theorem m_20_ok {B : zeB}  (im : zI) (lm : zJ) : zL B 0 (m_20  im lm) (zeRun 20 0 [some (.ref 42)] [] (zk B im lm)) := by
  unfold m_20
  refine zL_ifm d_20_0 (fun h => ?_) (fun h => ?_)
  · repeat rw [if_pos h]
    refine zL_eq d_20_9 ?_
    exact J_20_19_ok   _ _ _
  · repeat rw [if_neg h]
    refine zL_eq d_20_13 ?_
    exact J_20_19_ok   _ _ _
/-! X7_restore -/
theorem d_151_0 {B : zeB} {im : Nat → Nat → Int32} {lm : Nat → Nat → Int64} (l1 : Int32)  : zeRun 151 0 [some (.ref 16), some (.int l1)] [] (zk B im lm) = zeBh 151 4 [some (.ref 16), some (.int l1)] [] (zeRun 148 0 [some (.int l1)] [] (zk B im lm)) := ze_call (ok := true) rfl 2 rfl rfl rfl
theorem d_151_4 {B : zeB} {im : Nat → Nat → Int32} {lm : Nat → Nat → Int64} (l1 : Int32) (s0 : Int32)  : zeRun 151 4 [some (.ref 16), some (.int l1)] [.int s0] (zk B im lm) = if s0 = 0 then zeRun 151 7 [some (.ref 16), some (.int l1)] [] (zk B im lm) else zeRun 151 10 [some (.ref 16), some (.int l1)] [] (zk B im lm) := ze_if (ok := true) rfl 1 rfl rfl
theorem d_151_7 {B : zeB} {im : Nat → Nat → Int32} {lm : Nat → Nat → Int64} (o0 : Option Value) (o1 : Option Value)  : zeRun 151 7 [o0, o1] [] (zk B im lm) = some (some (.int (-10000001)), (zk B im lm)) := ze_ret (ok := true) rfl 2 rfl rfl
theorem d_151_10 {B : zeB} {im : Nat → Nat → Int32} {lm : Nat → Nat → Int64} (l1 : Int32) (c0 : zeInb l1 2 = true) : zeRun 151 10 [some (.ref 16), some (.int l1)] [] (zk B im lm) = if (im 165 (Int32.toNatClampNeg l1)) = 0 then zeRun 151 19 [some (.ref 16), some (.int l1)] [] (zk B im lm) else zeRun 151 22 [some (.ref 16), some (.int l1)] [] (zk B im lm) := ze_if (ok := (zeInb l1 2 && true)) rfl 5 rfl (zeA2 c0 rfl)
theorem d_151_19 {B : zeB} {im : Nat → Nat → Int32} {lm : Nat → Nat → Int64} (o0 : Option Value) (o1 : Option Value)  : zeRun 151 19 [o0, o1] [] (zk B im lm) = some (some (.int (-10000005)), (zk B im lm)) := ze_ret (ok := true) rfl 2 rfl rfl
theorem d_151_22 {B : zeB} {im : Nat → Nat → Int32} {lm : Nat → Nat → Int64} (l1 : Int32)  : zeRun 151 22 [some (.ref 16), some (.int l1)] [] (zk B im lm) = zeBh 151 33 [some (.ref 16), some (.int l1)] [] (zeRun 15 0 [some (.ref 42), some (.ref 17)] [] (zk B im lm)) := ze_call (ok := true) rfl 5 rfl rfl rfl
theorem d_151_33 {B : zeB} {im : Nat → Nat → Int32} {lm : Nat → Nat → Int64} (l1 : Int32)  : zeRun 151 33 [some (.ref 16), some (.int l1)] [] (zk B im lm) = zeRun 151 39 [some (.ref 16), some (.int l1)] [.int l1, .ref 134, .ref 16] (zk B im lm) := ze_go (ok := true) rfl 4 rfl rfl
theorem d_151_39_0 {B : zeB} {im : Nat → Nat → Int32} {lm : Nat → Nat → Int64} (o1 : Option Value) (s2 : Int32) (c0 : zeInb s2 2 = true) (hx : Int32.toNatClampNeg s2 = 0) : zeRun 151 39 [some (.ref 16), o1] [.int s2, .ref 134, .ref 16] (zk B im lm) = zeRun 151 40 [some (.ref 16), o1] [.ref 135, .ref 16] (zk B im lm) := by
  have hy := (ze_go (i := 151) rfl 1 rfl (zeA2 c0 rfl) : zeRun 151 39 [some (.ref 16), o1] [.int s2, .ref 134, .ref 16] (zk B im lm) = _)
  exact hy.trans (by rw [hx]; rfl)
theorem d_151_39_1 {B : zeB} {im : Nat → Nat → Int32} {lm : Nat → Nat → Int64} (o1 : Option Value) (s2 : Int32) (c0 : zeInb s2 2 = true) (hx : Int32.toNatClampNeg s2 = 1) : zeRun 151 39 [some (.ref 16), o1] [.int s2, .ref 134, .ref 16] (zk B im lm) = zeRun 151 40 [some (.ref 16), o1] [.ref 150, .ref 16] (zk B im lm) := by
  have hy := (ze_go (i := 151) rfl 1 rfl (zeA2 c0 rfl) : zeRun 151 39 [some (.ref 16), o1] [.int s2, .ref 134, .ref 16] (zk B im lm) = _)
  exact hy.trans (by rw [hx]; rfl)
theorem d_151_40 {B : zeB} {im : Nat → Nat → Int32} {lm : Nat → Nat → Int64} (o1 : Option Value)  : zeRun 151 40 [some (.ref 16), o1] [.ref 135, .ref 16] (zk B im lm) = zeBh 151 43 [some (.ref 16), o1] [] (zeRun 145 0 [some (.ref 16), some (.ref 135)] [] (zk B im lm)) := ze_call (ok := true) rfl 1 rfl rfl rfl
theorem d_151_43 {B : zeB} {im : Nat → Nat → Int32} {lm : Nat → Nat → Int64} (o1 : Option Value)  : zeRun 151 43 [some (.ref 16), o1] [] (zk B im lm) = zeBh 151 50 [some (.ref 16), o1] [] (zeRun 20 0 [some (.ref 42)] [] (zk B im lm)) := ze_call (ok := true) rfl 3 rfl rfl rfl
theorem d_151_50 {B : zeB} {im : Nat → Nat → Int32} {lm : Nat → Nat → Int64} (o1 : Option Value)  : zeRun 151 50 [some (.ref 16), o1] [] (zk B im lm) = some (some (.int (im 26 0)), (zk B im lm)) := ze_ret (ok := true) rfl 5 rfl rfl
theorem d_151_40_2 {B : zeB} {im : Nat → Nat → Int32} {lm : Nat → Nat → Int64} (o1 : Option Value)  : zeRun 151 40 [some (.ref 16), o1] [.ref 150, .ref 16] (zk B im lm) = zeBh 151 43 [some (.ref 16), o1] [] (zeRun 145 0 [some (.ref 16), some (.ref 150)] [] (zk B im lm)) := ze_call (ok := true) rfl 1 rfl rfl rfl
def m_151 (l1 : Int32) (im : zI) (lm : zJ) : zR :=
    if (if l1 < 0 then 0 else if 2 ≤ l1 then 0 else 1 : Int32) = 0 then
      some ((-10000001), im, lm)
    else
      zCk (zeInb l1 2) <|
      if (im 165 (Int32.toNatClampNeg l1)) = 0 then
        some ((-10000005), im, lm)
      else
        zBd (m_15  im lm) fun _ im2 lm2 =>
        if Int32.toNatClampNeg l1 = 0 then
          zBd (m_145_135  im2 lm2) fun _ im3 lm3 =>
          zBd (m_20  im3 lm3) fun _ im4 lm4 =>
          some ((im4 26 0), im4, lm4)
        else
        if Int32.toNatClampNeg l1 = 1 then
          zBd (m_145_150  im2 lm2) fun _ im5 lm5 =>
          zBd (m_20  im5 lm5) fun _ im6 lm6 =>
          some ((im6 26 0), im6, lm6)
        else
        none
theorem m_151_ok {B : zeB} (l1 : Int32) (im : zI) (lm : zJ) : zL B 1 (m_151 l1 im lm) (zeRun 151 0 [some (.ref 16), some (.int l1)] [] (zk B im lm)) := by
  unfold m_151
  refine zL_bdp (e := (if l1 < 0 then 0 else if 2 ≤ l1 then 0 else 1 : Int32)) (d_151_0 _) (m_148_ok _ _ _) ?_
  refine zL_if (d_151_4 _ _) (fun h => ?_) (fun h => ?_)
  · skip
    exact zL_ret (d_151_7 _ _)
  · skip
    refine zL_ck fun c1 => ?_
    refine zL_if (d_151_10 _ c1) (fun h => ?_) (fun h => ?_)
    · skip
      exact zL_ret (d_151_19 _ _)
    · skip
      refine zL_bdv (d_151_22 _) (m_15_ok _ _) fun _ im2 lm2 => ?_
      refine zL_eq (d_151_33 _) ?_
      refine zL_aa (fun h => ?_) (fun h => ?_)
      · refine zL_eq (d_151_39_0 _ _ c1 h) ?_
        refine zL_bdv (d_151_40 _) (m_145_135_ok _ _) fun _ im3 lm3 => ?_
        refine zL_bdv (d_151_43 _) (m_20_ok _ _) fun _ im4 lm4 => ?_
        exact zL_ret (d_151_50 _)
      refine zL_aa (fun h => ?_) (fun h => ?_)
      · refine zL_eq (d_151_39_1 _ _ c1 h) ?_
        refine zL_bdv (d_151_40_2 _) (m_145_150_ok _ _) fun _ im5 lm5 => ?_
        refine zL_bdv (d_151_43 _) (m_20_ok _ _) fun _ im6 lm6 => ?_
        exact zL_ret (d_151_50 _)
      exact zL_none
/-! X7_keep -/
theorem d_149_0 {B : zeB} {im : Nat → Nat → Int32} {lm : Nat → Nat → Int64} (l1 : Int32)  : zeRun 149 0 [some (.ref 16), some (.int l1)] [] (zk B im lm) = zeBh 149 4 [some (.ref 16), some (.int l1)] [] (zeRun 148 0 [some (.int l1)] [] (zk B im lm)) := ze_call (ok := true) rfl 2 rfl rfl rfl
theorem d_149_4 {B : zeB} {im : Nat → Nat → Int32} {lm : Nat → Nat → Int64} (l1 : Int32) (s0 : Int32)  : zeRun 149 4 [some (.ref 16), some (.int l1)] [.int s0] (zk B im lm) = if s0 = 0 then zeRun 149 7 [some (.ref 16), some (.int l1)] [] (zk B im lm) else zeRun 149 10 [some (.ref 16), some (.int l1)] [] (zk B im lm) := ze_if (ok := true) rfl 1 rfl rfl
theorem d_149_7 {B : zeB} {im : Nat → Nat → Int32} {lm : Nat → Nat → Int64} (o0 : Option Value) (o1 : Option Value)  : zeRun 149 7 [o0, o1] [] (zk B im lm) = some (some (.int (-10000001)), (zk B im lm)) := ze_ret (ok := true) rfl 2 rfl rfl
theorem d_149_10 {B : zeB} {im : Nat → Nat → Int32} {lm : Nat → Nat → Int64} (l1 : Int32)  : zeRun 149 10 [some (.ref 16), some (.int l1)] [] (zk B im lm) = zeRun 149 15 [some (.ref 16), some (.int l1)] [.int l1, .ref 134] (zk B im lm) := ze_go (ok := true) rfl 3 rfl rfl
theorem d_149_15_0 {B : zeB} {im : Nat → Nat → Int32} {lm : Nat → Nat → Int64} (l1 : Int32) (s1 : Int32) (c0 : zeInb s1 2 = true) (hx : Int32.toNatClampNeg s1 = 0) : zeRun 149 15 [some (.ref 16), some (.int l1)] [.int s1, .ref 134] (zk B im lm) = zeRun 149 16 [some (.ref 16), some (.int l1)] [.ref 135] (zk B im lm) := by
  have hy := (ze_go (i := 149) rfl 1 rfl (zeA2 c0 rfl) : zeRun 149 15 [some (.ref 16), some (.int l1)] [.int s1, .ref 134] (zk B im lm) = _)
  exact hy.trans (by rw [hx]; rfl)
theorem d_149_15_1 {B : zeB} {im : Nat → Nat → Int32} {lm : Nat → Nat → Int64} (l1 : Int32) (s1 : Int32) (c0 : zeInb s1 2 = true) (hx : Int32.toNatClampNeg s1 = 1) : zeRun 149 15 [some (.ref 16), some (.int l1)] [.int s1, .ref 134] (zk B im lm) = zeRun 149 16 [some (.ref 16), some (.int l1)] [.ref 150] (zk B im lm) := by
  have hy := (ze_go (i := 149) rfl 1 rfl (zeA2 c0 rfl) : zeRun 149 15 [some (.ref 16), some (.int l1)] [.int s1, .ref 134] (zk B im lm) = _)
  exact hy.trans (by rw [hx]; rfl)
theorem d_149_16 {B : zeB} {im : Nat → Nat → Int32} {lm : Nat → Nat → Int64} (l1 : Int32)  : zeRun 149 16 [some (.ref 16), some (.int l1)] [.ref 135] (zk B im lm) = zeBh 149 23 [some (.ref 16), some (.int l1)] [] (zeRun 14 0 [some (.ref 135), some (.ref 17)] [] (zk B im lm)) := ze_call (ok := true) rfl 3 rfl rfl rfl
theorem d_149_23 {B : zeB} {im : Nat → Nat → Int32} {lm : Nat → Nat → Int64} (l1 : Int32) (c0 : zeInb l1 2 = true) : zeRun 149 23 [some (.ref 16), some (.int l1)] [] (zk B im lm) = some (some (.int (im 26 0)), (zk B (zeU2 im 165 (Int32.toNatClampNeg l1) (vp_nar .boolean 1)) lm)) := ze_ret (ok := (zeInb l1 2 && true)) rfl 10 rfl (zeA2 c0 rfl)
theorem d_149_16_2 {B : zeB} {im : Nat → Nat → Int32} {lm : Nat → Nat → Int64} (l1 : Int32)  : zeRun 149 16 [some (.ref 16), some (.int l1)] [.ref 150] (zk B im lm) = zeBh 149 23 [some (.ref 16), some (.int l1)] [] (zeRun 14 0 [some (.ref 150), some (.ref 17)] [] (zk B im lm)) := ze_call (ok := true) rfl 3 rfl rfl rfl
def m_149 (l1 : Int32) (im : zI) (lm : zJ) : zR :=
    if (if l1 < 0 then 0 else if 2 ≤ l1 then 0 else 1 : Int32) = 0 then
      some ((-10000001), im, lm)
    else
      zCk (zeInb l1 2) <|
      if Int32.toNatClampNeg l1 = 0 then
        zBd (m_14_135_17  im lm) fun _ im2 lm2 =>
        some ((im2 26 0), (zeU2 im2 165 (Int32.toNatClampNeg l1) (vp_nar .boolean 1)), lm2)
      else
      if Int32.toNatClampNeg l1 = 1 then
        zBd (m_14_150_17  im lm) fun _ im3 lm3 =>
        some ((im3 26 0), (zeU2 im3 165 (Int32.toNatClampNeg l1) (vp_nar .boolean 1)), lm3)
      else
      none
theorem m_149_ok {B : zeB} (l1 : Int32) (im : zI) (lm : zJ) : zL B 1 (m_149 l1 im lm) (zeRun 149 0 [some (.ref 16), some (.int l1)] [] (zk B im lm)) := by
  unfold m_149
  refine zL_bdp (e := (if l1 < 0 then 0 else if 2 ≤ l1 then 0 else 1 : Int32)) (d_149_0 _) (m_148_ok _ _ _) ?_
  refine zL_if (d_149_4 _ _) (fun h => ?_) (fun h => ?_)
  · skip
    exact zL_ret (d_149_7 _ _)
  · skip
    refine zL_eq (d_149_10 _) ?_
    refine zL_ck fun c1 => ?_
    refine zL_aa (fun h => ?_) (fun h => ?_)
    · refine zL_eq (d_149_15_0 _ _ c1 h) ?_
      refine zL_bdv (d_149_16 _) (m_14_135_17_ok _ _) fun _ im2 lm2 => ?_
      exact zL_ret (d_149_23 _ c1)
    refine zL_aa (fun h => ?_) (fun h => ?_)
    · refine zL_eq (d_149_15_1 _ _ c1 h) ?_
      refine zL_bdv (d_149_16_2 _) (m_14_150_17_ok _ _) fun _ im3 lm3 => ?_
      exact zL_ret (d_149_23 _ c1)
    exact zL_none
/-! X7_refused -/
theorem d_17_0 {B : zeB} {im : Nat → Nat → Int32} {lm : Nat → Nat → Int64} (l1 : Int32)  : zeRun 17 0 [some (.ref 16), some (.int l1)] [] (zk B im lm) = some (some (.int (-10000003)), (zk B (zeU2 im 16 7 l1) lm)) := ze_ret (ok := true) rfl 5 rfl rfl
def m_17 (l1 : Int32) (im : zI) (lm : zJ) : zR :=
    some ((-10000003), (zeU2 im 16 7 l1), lm)
theorem m_17_ok {B : zeB} (l1 : Int32) (im : zI) (lm : zJ) : zL B 1 (m_17 l1 im lm) (zeRun 17 0 [some (.ref 16), some (.int l1)] [] (zk B im lm)) := by
  unfold m_17
  exact zL_ret (d_17_0 _)
/-! X0_begin -/
theorem d_103_0 {B : zeB} {im : Nat → Nat → Int32} {lm : Nat → Nat → Int64} (o2 : Option Value)  : zeRun 103 0 [some (.ref 23), some (.ref 33), o2] [] (zk B im lm) = zeRun 103 2 [some (.ref 23), some (.ref 33), some (.int 0)] [] (zk B im lm) := ze_go (ok := true) rfl 2 rfl rfl
theorem d_103_2 {B : zeB} {im : Nat → Nat → Int32} {lm : Nat → Nat → Int64} (l2 : Int32)  : zeRun 103 2 [some (.ref 23), some (.ref 33), some (.int l2)] [] (zk B im lm) = if 6 ≤ l2 then zeRun 103 27 [some (.ref 23), some (.ref 33), some (.int l2)] [] (zk B im lm) else zeRun 103 8 [some (.ref 23), some (.ref 33), some (.int l2)] [] (zk B im lm) := ze_if (ok := true) rfl 3 rfl rfl
theorem d_103_27 {B : zeB} {im : Nat → Nat → Int32} {lm : Nat → Nat → Int64} (o0 : Option Value) (o1 : Option Value) (o2 : Option Value)  : zeRun 103 27 [o0, o1, o2] [] (zk B im lm) = some (none, (zk B im lm)) := ze_ret (ok := true) rfl 1 rfl rfl
theorem d_103_8 {B : zeB} {im : Nat → Nat → Int32} {lm : Nat → Nat → Int64} (l2 : Int32) (c0 : zeInb l2 6 = true) (c1 : zeInb l2 6 = true) : zeRun 103 8 [some (.ref 23), some (.ref 33), some (.int l2)] [] (zk B im lm) = zeRun 103 2 [some (.ref 23), some (.ref 33), some (.int (l2 + 1))] [] (zk B (zeU2 im 24 (Int32.toNatClampNeg l2) (if (im 33 (Int32.toNatClampNeg l2)) < 0 then 0 else (im 33 (Int32.toNatClampNeg l2)))) lm) := ze_go (ok := (zeInb l2 6 && (zeInb l2 6 && true))) rfl 11 rfl (zeA2 c1 (zeA2 c0 rfl))
def F_103_2  : Nat → Int32 → zI → zJ → zR
  | 0, _, _, _ => none
  | n + 1, l2, im, lm =>
    if 6 ≤ l2 then
      some (0, im, lm)
    else
      zCk (zeInb l2 6) <|
      F_103_2  n (l2 + 1) (zeU2 im 24 (Int32.toNatClampNeg l2) (if (im 33 (Int32.toNatClampNeg l2)) < 0 then 0 else (im 33 (Int32.toNatClampNeg l2)))) lm
theorem F_103_2_ok {B : zeB} : ∀ (n : Nat) (l2 : Int32)  (im : zI) (lm : zJ), zL B 0 (F_103_2  n l2 im lm) (zeRun 103 2 [some (.ref 23), some (.ref 33), some (.int l2)] [] (zk B im lm)) := by
  intro n
  induction n with
  | zero => intros; exact zL_none
  | succ n ih =>
    intro l2 im lm
    unfold F_103_2
    refine zL_if (d_103_2 _) (fun h => ?_) (fun h => ?_)
    · skip
      exact zL_retv (d_103_27 _ _ _)
    · skip
      refine zL_ck fun c1 => ?_
      refine zL_eq (d_103_8 _ c1 c1) ?_
      exact ih _ _ _
def m_103  (im : zI) (lm : zJ) : zR :=
    F_103_2  2000 0 im lm
theorem m_103_ok {B : zeB}  (im : zI) (lm : zJ) : zL B 0 (m_103  im lm) (zeRun 103 0 [some (.ref 23), some (.ref 33), none] [] (zk B im lm)) := by
  unfold m_103
  refine zL_eq (d_103_0 _) ?_
  exact F_103_2_ok  _ _ _ _
/-! X0_members -/
theorem d_83_0 {B : zeB} {im : Nat → Nat → Int32} {lm : Nat → Nat → Int64} (o1 : Option Value) (o2 : Option Value) (o3 : Option Value) (o4 : Option Value) (o5 : Option Value)  : zeRun 83 0 [some (.ref 23), o1, o2, o3, o4, o5] [] (zk B im lm) = zeRun 83 13 [some (.ref 23), some (.int 0), some (.ref 24), some (.int 6), some (.int 0), o5] [] (zk B im lm) := ze_go (ok := true) rfl 10 rfl rfl
theorem d_83_13 {B : zeB} {im : Nat → Nat → Int32} {lm : Nat → Nat → Int64} (o0 : Option Value) (l1 : Int32) (l3 : Int32) (l4 : Int32) (o5 : Option Value)  : zeRun 83 13 [o0, some (.int l1), some (.ref 24), some (.int l3), some (.int l4), o5] [] (zk B im lm) = if l3 ≤ l4 then zeRun 83 39 [o0, some (.int l1), some (.ref 24), some (.int l3), some (.int l4), o5] [] (zk B im lm) else zeRun 83 19 [o0, some (.int l1), some (.ref 24), some (.int l3), some (.int l4), o5] [] (zk B im lm) := ze_if (ok := true) rfl 3 rfl rfl
theorem d_83_39 {B : zeB} {im : Nat → Nat → Int32} {lm : Nat → Nat → Int64} (o0 : Option Value) (l1 : Int32) (o2 : Option Value) (o3 : Option Value) (o4 : Option Value) (o5 : Option Value)  : zeRun 83 39 [o0, some (.int l1), o2, o3, o4, o5] [] (zk B im lm) = some (some (.int l1), (zk B im lm)) := ze_ret (ok := true) rfl 2 rfl rfl
theorem d_83_19 {B : zeB} {im : Nat → Nat → Int32} {lm : Nat → Nat → Int64} (o0 : Option Value) (l1 : Int32) (l3 : Int32) (l4 : Int32) (o5 : Option Value) (c0 : zeInb l4 6 = true) : zeRun 83 19 [o0, some (.int l1), some (.ref 24), some (.int l3), some (.int l4), o5] [] (zk B im lm) = if (im 24 (Int32.toNatClampNeg l4)) ≤ 0 then zeRun 83 33 [o0, some (.int l1), some (.ref 24), some (.int l3), some (.int l4), some (.int (im 24 (Int32.toNatClampNeg l4)))] [] (zk B im lm) else zeRun 83 30 [o0, some (.int l1), some (.ref 24), some (.int l3), some (.int l4), some (.int (im 24 (Int32.toNatClampNeg l4)))] [] (zk B im lm) := ze_if (ok := (zeInb l4 6 && true)) rfl 6 rfl (zeA2 c0 rfl)
theorem d_83_33 {B : zeB} {im : Nat → Nat → Int32} {lm : Nat → Nat → Int64} (o0 : Option Value) (l1 : Int32) (l3 : Int32) (l4 : Int32) (o5 : Option Value)  : zeRun 83 33 [o0, some (.int l1), some (.ref 24), some (.int l3), some (.int l4), o5] [] (zk B im lm) = zeRun 83 13 [o0, some (.int l1), some (.ref 24), some (.int l3), some (.int (l4 + 1)), o5] [] (zk B im lm) := ze_go (ok := true) rfl 2 rfl rfl
theorem d_83_30 {B : zeB} {im : Nat → Nat → Int32} {lm : Nat → Nat → Int64} (o0 : Option Value) (l1 : Int32) (l3 : Int32) (l4 : Int32) (o5 : Option Value)  : zeRun 83 30 [o0, some (.int l1), some (.ref 24), some (.int l3), some (.int l4), o5] [] (zk B im lm) = zeRun 83 13 [o0, some (.int (l1 + 1)), some (.ref 24), some (.int l3), some (.int (l4 + 1)), o5] [] (zk B im lm) := ze_go (ok := true) rfl 3 rfl rfl
def F_83_13  : Nat → Int32 → Int32 → Int32 → zI → zJ → zR
  | 0, _, _, _, _, _ => none
  | n + 1, l1, l3, l4, im, lm =>
    if l3 ≤ l4 then
      some (l1, im, lm)
    else
      zCk (zeInb l4 6) <|
      F_83_13  n (if (im 24 (Int32.toNatClampNeg l4)) ≤ 0 then l1 else (l1 + 1)) l3 (l4 + 1) im lm
theorem F_83_13_ok {B : zeB} : ∀ (n : Nat) (l1 : Int32) (l3 : Int32) (l4 : Int32) (o0 : Option Value) (o5 : Option Value) (im : zI) (lm : zJ), zL B 1 (F_83_13  n l1 l3 l4 im lm) (zeRun 83 13 [o0, some (.int l1), some (.ref 24), some (.int l3), some (.int l4), o5] [] (zk B im lm)) := by
  intro n
  induction n with
  | zero => intros; exact zL_none
  | succ n ih =>
    intro l1 l3 l4 o0 o5 im lm
    unfold F_83_13
    refine zL_if (d_83_13 _ _ _ _ _) (fun h => ?_) (fun h => ?_)
    · skip
      exact zL_ret (d_83_39 _ _ _ _ _ _)
    · skip
      refine zL_ck fun c1 => ?_
      refine zL_ifm (d_83_19 _ _ _ _ _ c1) (fun h => ?_) (fun h => ?_)
      · repeat rw [if_pos h]
        refine zL_eq (d_83_33 _ _ _ _ _) ?_
        exact ih _ _ _ _ _ _ _
      · repeat rw [if_neg h]
        refine zL_eq (d_83_30 _ _ _ _ _) ?_
        exact ih _ _ _ _ _ _ _
def m_83  (im : zI) (lm : zJ) : zR :=
    F_83_13  2000 0 6 0 im lm
theorem m_83_ok {B : zeB}  (im : zI) (lm : zJ) : zL B 1 (m_83  im lm) (zeRun 83 0 [some (.ref 23), none, none, none, none, none] [] (zk B im lm)) := by
  unfold m_83
  refine zL_eq (d_83_0 _ _ _ _ _) ?_
  exact F_83_13_ok  _ _ _ _ _ _ _ _
/-! X7_doBeginFinal -/
theorem d_104_0 {B : zeB} {im : Nat → Nat → Int32} {lm : Nat → Nat → Int64} (o1 : Option Value)  : zeRun 104 0 [some (.ref 16), o1] [] (zk B im lm) = if (im 17 1) = 0 then zeRun 104 10 [some (.ref 16), o1] [] (zk B im lm) else zeRun 104 17 [some (.ref 16), o1] [] (zk B im lm) := ze_if (ok := true) rfl 4 rfl rfl
theorem d_104_10 {B : zeB} {im : Nat → Nat → Int32} {lm : Nat → Nat → Int64} (o1 : Option Value)  : zeRun 104 10 [some (.ref 16), o1] [] (zk B im lm) = zeBh 104 16 [some (.ref 16), o1] [] (zeRun 17 0 [some (.ref 16), some (.int 8)] [] (zk B im lm)) := ze_call (ok := true) rfl 3 rfl rfl rfl
theorem d_104_16 {B : zeB} {im : Nat → Nat → Int32} {lm : Nat → Nat → Int64} (o0 : Option Value) (o1 : Option Value) (s0 : Int32)  : zeRun 104 16 [o0, o1] [.int s0] (zk B im lm) = some (some (.int s0), (zk B im lm)) := ze_ret (ok := true) rfl 1 rfl rfl
theorem d_104_17 {B : zeB} {im : Nat → Nat → Int32} {lm : Nat → Nat → Int64} (o1 : Option Value)  : zeRun 104 17 [some (.ref 16), o1] [] (zk B im lm) = if (im 17 0) = 0 then zeRun 104 33 [some (.ref 16), o1] [] (zk B im lm) else zeRun 104 27 [some (.ref 16), o1] [] (zk B im lm) := ze_if (ok := true) rfl 4 rfl rfl
theorem d_104_33 {B : zeB} {im : Nat → Nat → Int32} {lm : Nat → Nat → Int64} (o1 : Option Value)  : zeRun 104 33 [some (.ref 16), o1] [] (zk B im lm) = zeBh 104 50 [some (.ref 16), o1] [] (zeRun 103 0 [some (.ref 23), some (.ref 33), none] [] (zk B im lm)) := ze_call (ok := true) rfl 7 rfl rfl rfl
theorem d_104_50 {B : zeB} {im : Nat → Nat → Int32} {lm : Nat → Nat → Int64} (o1 : Option Value)  : zeRun 104 50 [some (.ref 16), o1] [] (zk B im lm) = zeBh 104 60 [some (.ref 16), o1] [] (zeRun 83 0 [some (.ref 23), none, none, none, none, none] [] (zk B im lm)) := ze_call (ok := true) rfl 4 rfl rfl rfl
theorem d_104_60 {B : zeB} {im : Nat → Nat → Int32} {lm : Nat → Nat → Int64} (o1 : Option Value) (s0 : Int32)  : zeRun 104 60 [some (.ref 16), o1] [.int s0] (zk B im lm) = if s0 = 0 then zeRun 104 69 [some (.ref 16), some (.int s0)] [.ref 17] (zk B im lm) else zeRun 104 74 [some (.ref 16), some (.int s0)] [.ref 17] (zk B im lm) := ze_if (ok := true) rfl 5 rfl rfl
theorem d_104_69 {B : zeB} {im : Nat → Nat → Int32} {lm : Nat → Nat → Int64} (o0 : Option Value) (l1 : Int32)  : zeRun 104 69 [o0, some (.int l1)] [.ref 17] (zk B im lm) = zeRun 104 75 [o0, some (.int l1)] [.int 6, .ref 17] (zk B im lm) := ze_go (ok := true) rfl 2 rfl rfl
theorem d_104_74 {B : zeB} {im : Nat → Nat → Int32} {lm : Nat → Nat → Int64} (o0 : Option Value) (l1 : Int32)  : zeRun 104 74 [o0, some (.int l1)] [.ref 17] (zk B im lm) = zeRun 104 75 [o0, some (.int l1)] [.int 4, .ref 17] (zk B im lm) := ze_go (ok := true) rfl 1 rfl rfl
theorem d_104_27 {B : zeB} {im : Nat → Nat → Int32} {lm : Nat → Nat → Int64} (o1 : Option Value)  : zeRun 104 27 [some (.ref 16), o1] [] (zk B im lm) = zeBh 104 32 [some (.ref 16), o1] [] (zeRun 17 0 [some (.ref 16), some (.int 1)] [] (zk B im lm)) := ze_call (ok := true) rfl 3 rfl rfl rfl
theorem d_104_32 {B : zeB} {im : Nat → Nat → Int32} {lm : Nat → Nat → Int64} (o0 : Option Value) (o1 : Option Value) (s0 : Int32)  : zeRun 104 32 [o0, o1] [.int s0] (zk B im lm) = some (some (.int s0), (zk B im lm)) := ze_ret (ok := true) rfl 1 rfl rfl
theorem d_104_75 {B : zeB} {im : Nat → Nat → Int32} {lm : Nat → Nat → Int64} (o0 : Option Value) (l1 : Int32) (s1 : Int32)  : zeRun 104 75 [o0, some (.int l1)] [.int s1, .ref 17] (zk B im lm) = some (some (.int l1), (zk B (zeU2 im 17 0 s1) lm)) := ze_ret (ok := true) rfl 3 rfl rfl
def J_104_75  (l1 : Int32) (s1 : Int32) (im : zI) (lm : zJ) : zR :=
    some (l1, (zeU2 im 17 0 s1), lm)
theorem J_104_75_ok {B : zeB} (l1 : Int32) (s1 : Int32) (o0 : Option Value) (im : zI) (lm : zJ) : zL B 1 (J_104_75  l1 s1 im lm) (zeRun 104 75 [o0, some (.int l1)] [.int s1, .ref 17] (zk B im lm)) := by
  unfold J_104_75
  exact zL_ret (d_104_75 _ _ _)
def m_104  (im : zI) (lm : zJ) : zR :=
    if (im 17 1) = 0 then
      zBd (m_17 8 im lm) fun v1 im1 lm1 =>
      some (v1, im1, lm1)
    else
      if (im 17 0) = 0 then
        zBd (m_103  im lm) fun _ im2 lm2 =>
        zBd (m_83  im2 lm2) fun v3 im3 lm3 =>
        J_104_75   v3 (if v3 = 0 then 6 else 4) im3 lm3
      else
        zBd (m_17 1 im lm) fun v4 im4 lm4 =>
        some (v4, im4, lm4)
theorem m_104_ok {B : zeB}  (im : zI) (lm : zJ) : zL B 1 (m_104  im lm) (zeRun 104 0 [some (.ref 16), none] [] (zk B im lm)) := by
  unfold m_104
  refine zL_if (d_104_0 _) (fun h => ?_) (fun h => ?_)
  · skip
    refine zL_bd (d_104_10 _) (m_17_ok _ _ _) fun v1 im1 lm1 => ?_
    exact zL_ret (d_104_16 _ _ _)
  · skip
    refine zL_if (d_104_17 _) (fun h => ?_) (fun h => ?_)
    · skip
      refine zL_bdv (d_104_33 _) (m_103_ok _ _) fun _ im2 lm2 => ?_
      refine zL_bd (d_104_50 _) (m_83_ok _ _) fun v3 im3 lm3 => ?_
      refine zL_ifm (d_104_60 _ _) (fun h => ?_) (fun h => ?_)
      · repeat rw [if_pos h]
        refine zL_eq (d_104_69 _ _) ?_
        exact J_104_75_ok   _ _ _ _ _
      · repeat rw [if_neg h]
        refine zL_eq (d_104_74 _ _) ?_
        exact J_104_75_ok   _ _ _ _ _
    · skip
      refine zL_bd (d_104_27 _) (m_17_ok _ _ _) fun v4 im4 lm4 => ?_
      exact zL_ret (d_104_32 _ _ _)
/-! X7_isError -/
theorem d_19_0 {B : zeB} {im : Nat → Nat → Int32} {lm : Nat → Nat → Int64} (l0 : Int32)  : zeRun 19 0 [some (.int l0)] [] (zk B im lm) = if l0 = (-10000001) then zeRun 19 25 [some (.int l0)] [] (zk B im lm) else zeRun 19 6 [some (.int l0)] [] (zk B im lm) := ze_if (ok := true) rfl 3 rfl rfl
theorem d_19_25 {B : zeB} {im : Nat → Nat → Int32} {lm : Nat → Nat → Int64} (o0 : Option Value)  : zeRun 19 25 [o0] [] (zk B im lm) = some (some (.int 1), (zk B im lm)) := ze_ret (ok := true) rfl 3 rfl rfl
theorem d_19_6 {B : zeB} {im : Nat → Nat → Int32} {lm : Nat → Nat → Int64} (l0 : Int32)  : zeRun 19 6 [some (.int l0)] [] (zk B im lm) = if l0 = (-10000002) then zeRun 19 25 [some (.int l0)] [] (zk B im lm) else zeRun 19 12 [some (.int l0)] [] (zk B im lm) := ze_if (ok := true) rfl 3 rfl rfl
theorem d_19_12 {B : zeB} {im : Nat → Nat → Int32} {lm : Nat → Nat → Int64} (l0 : Int32)  : zeRun 19 12 [some (.int l0)] [] (zk B im lm) = if l0 = (-10000003) then zeRun 19 25 [some (.int l0)] [] (zk B im lm) else zeRun 19 19 [some (.int l0)] [] (zk B im lm) := ze_if (ok := true) rfl 3 rfl rfl
theorem d_19_19 {B : zeB} {im : Nat → Nat → Int32} {lm : Nat → Nat → Int64} (l0 : Int32)  : zeRun 19 19 [some (.int l0)] [] (zk B im lm) = if l0 = (-10000004) then zeRun 19 25 [some (.int l0)] [] (zk B im lm) else zeRun 19 29 [some (.int l0)] [] (zk B im lm) := ze_if (ok := true) rfl 3 rfl rfl
theorem d_19_29 {B : zeB} {im : Nat → Nat → Int32} {lm : Nat → Nat → Int64} (o0 : Option Value)  : zeRun 19 29 [o0] [] (zk B im lm) = some (some (.int 0), (zk B im lm)) := ze_ret (ok := true) rfl 2 rfl rfl
def m_19 (l0 : Int32) (im : zI) (lm : zJ) : zR :=
    some (if l0 = (-10000001) then 1 else if l0 = (-10000002) then 1 else if l0 = (-10000003) then 1 else if l0 = (-10000004) then 1 else 0, im, lm)
theorem m_19_ok {B : zeB} (l0 : Int32) (im : zI) (lm : zJ) : zL B 1 (m_19 l0 im lm) (zeRun 19 0 [some (.int l0)] [] (zk B im lm)) := by
  unfold m_19
  refine zL_ifm (d_19_0 _) (fun h => ?_) (fun h => ?_)
  · repeat rw [if_pos h]
    exact zL_ret (d_19_25 _)
  · repeat rw [if_neg h]
    refine zL_ifm (d_19_6 _) (fun h => ?_) (fun h => ?_)
    · repeat rw [if_pos h]
      exact zL_ret (d_19_25 _)
    · repeat rw [if_neg h]
      refine zL_ifm (d_19_12 _) (fun h => ?_) (fun h => ?_)
      · repeat rw [if_pos h]
        exact zL_ret (d_19_25 _)
      · repeat rw [if_neg h]
        refine zL_ifm (d_19_19 _) (fun h => ?_) (fun h => ?_)
        · repeat rw [if_pos h]
          exact zL_ret (d_19_25 _)
        · repeat rw [if_neg h]
          exact zL_ret (d_19_29 _)
/-! X7_recorded -/
theorem d_21_0 {B : zeB} {im : Nat → Nat → Int32} {lm : Nat → Nat → Int64} (l1 : Int32)  : zeRun 21 0 [some (.ref 16), some (.int l1)] [] (zk B im lm) = zeBh 21 4 [some (.ref 16), some (.int l1)] [] (zeRun 19 0 [some (.int l1)] [] (zk B im lm)) := ze_call (ok := true) rfl 2 rfl rfl rfl
theorem d_21_4 {B : zeB} {im : Nat → Nat → Int32} {lm : Nat → Nat → Int64} (l1 : Int32) (s0 : Int32)  : zeRun 21 4 [some (.ref 16), some (.int l1)] [.int s0] (zk B im lm) = if s0 = 0 then zeRun 21 7 [some (.ref 16), some (.int l1)] [] (zk B im lm) else zeRun 21 20 [some (.ref 16), some (.int l1)] [] (zk B im lm) := ze_if (ok := true) rfl 1 rfl rfl
theorem d_21_7 {B : zeB} {im : Nat → Nat → Int32} {lm : Nat → Nat → Int64} (l1 : Int32)  : zeRun 21 7 [some (.ref 16), some (.int l1)] [] (zk B im lm) = if l1 = (-10000005) then zeRun 21 20 [some (.ref 16), some (.int l1)] [] (zk B im lm) else zeRun 21 13 [some (.ref 16), some (.int l1)] [] (zk B im lm) := ze_if (ok := true) rfl 3 rfl rfl
theorem d_21_20 {B : zeB} {im : Nat → Nat → Int32} {lm : Nat → Nat → Int64} (o0 : Option Value) (l1 : Int32)  : zeRun 21 20 [o0, some (.int l1)] [] (zk B im lm) = some (some (.int l1), (zk B im lm)) := ze_ret (ok := true) rfl 2 rfl rfl
theorem d_21_13 {B : zeB} {im : Nat → Nat → Int32} {lm : Nat → Nat → Int64} (l1 : Int32)  : zeRun 21 13 [some (.ref 16), some (.int l1)] [] (zk B im lm) = zeBh 21 20 [some (.ref 16), some (.int l1)] [] (zeRun 20 0 [some (.ref 42)] [] (zk B im lm)) := ze_call (ok := true) rfl 3 rfl rfl rfl
def m_21 (l1 : Int32) (im : zI) (lm : zJ) : zR :=
    if (if l1 = (-10000001) then 1 else if l1 = (-10000002) then 1 else if l1 = (-10000003) then 1 else if l1 = (-10000004) then 1 else 0 : Int32) = 0 then
      if l1 = (-10000005) then
        some (l1, im, lm)
      else
        zBd (m_20  im lm) fun _ im2 lm2 =>
        some (l1, im2, lm2)
    else
      some (l1, im, lm)
theorem m_21_ok {B : zeB} (l1 : Int32) (im : zI) (lm : zJ) : zL B 1 (m_21 l1 im lm) (zeRun 21 0 [some (.ref 16), some (.int l1)] [] (zk B im lm)) := by
  unfold m_21
  refine zL_bdp (e := (if l1 = (-10000001) then 1 else if l1 = (-10000002) then 1 else if l1 = (-10000003) then 1 else if l1 = (-10000004) then 1 else 0 : Int32)) (d_21_0 _) (m_19_ok _ _ _) ?_
  refine zL_if (d_21_4 _ _) (fun h => ?_) (fun h => ?_)
  · skip
    refine zL_if (d_21_7 _) (fun h => ?_) (fun h => ?_)
    · skip
      exact zL_ret (d_21_20 _ _)
    · skip
      refine zL_bdv (d_21_13 _) (m_20_ok _ _) fun _ im2 lm2 => ?_
      exact zL_ret (d_21_20 _ _)
  · skip
    exact zL_ret (d_21_20 _ _)
/-! X7_beginFinal -/
theorem d_105_0 {B : zeB} {im : Nat → Nat → Int32} {lm : Nat → Nat → Int64}   : zeRun 105 0 [some (.ref 16)] [] (zk B im lm) = zeBh 105 11 [some (.ref 16)] [] (zeRun 15 0 [some (.ref 42), some (.ref 17)] [] (zk B im lm)) := ze_call (ok := true) rfl 5 rfl rfl rfl
theorem d_105_11 {B : zeB} {im : Nat → Nat → Int32} {lm : Nat → Nat → Int64}   : zeRun 105 11 [some (.ref 16)] [] (zk B im lm) = zeBh 105 16 [some (.ref 16)] [.ref 16] (zeRun 104 0 [some (.ref 16), none] [] (zk B im lm)) := ze_call (ok := true) rfl 3 rfl rfl rfl
theorem d_105_16 {B : zeB} {im : Nat → Nat → Int32} {lm : Nat → Nat → Int64} (o0 : Option Value) (s1 : Int32)  : zeRun 105 16 [o0] [.int s1, .ref 16] (zk B im lm) = zeBh 105 19 [o0] [] (zeRun 21 0 [some (.ref 16), some (.int s1)] [] (zk B im lm)) := ze_call (ok := true) rfl 1 rfl rfl rfl
theorem d_105_19 {B : zeB} {im : Nat → Nat → Int32} {lm : Nat → Nat → Int64} (o0 : Option Value) (s0 : Int32)  : zeRun 105 19 [o0] [.int s0] (zk B im lm) = some (some (.int s0), (zk B im lm)) := ze_ret (ok := true) rfl 1 rfl rfl
def m_105  (im : zI) (lm : zJ) : zR :=
    zBd (m_15  im lm) fun _ im1 lm1 =>
    zBd (m_104  im1 lm1) fun v2 im2 lm2 =>
    zBd (m_21 v2 im2 lm2) fun v3 im3 lm3 =>
    some (v3, im3, lm3)
theorem m_105_ok {B : zeB}  (im : zI) (lm : zJ) : zL B 1 (m_105  im lm) (zeRun 105 0 [some (.ref 16)] [] (zk B im lm)) := by
  unfold m_105
  refine zL_bdv d_105_0 (m_15_ok _ _) fun _ im1 lm1 => ?_
  refine zL_bd d_105_11 (m_104_ok _ _) fun v2 im2 lm2 => ?_
  refine zL_bd (d_105_16 _ _) (m_21_ok _ _ _) fun v3 im3 lm3 => ?_
  exact zL_ret (d_105_19 _ _)
/-! J6_bitCount_0f7a4 -/
theorem d_29_0 {B : zeB} {im : Nat → Nat → Int32} {lm : Nat → Nat → Int64} (l0 : Int32)  : zeRun 29 0 [some (.int l0)] [] (zk B im lm) = some (some (.int ((((((((l0 - ((zfiushr l0 1) &&& 1431655765)) &&& 858993459) + ((zfiushr (l0 - ((zfiushr l0 1) &&& 1431655765)) 2) &&& 858993459)) + (zfiushr (((l0 - ((zfiushr l0 1) &&& 1431655765)) &&& 858993459) + ((zfiushr (l0 - ((zfiushr l0 1) &&& 1431655765)) 2) &&& 858993459)) 4)) &&& 252645135) + (zfiushr (((((l0 - ((zfiushr l0 1) &&& 1431655765)) &&& 858993459) + ((zfiushr (l0 - ((zfiushr l0 1) &&& 1431655765)) 2) &&& 858993459)) + (zfiushr (((l0 - ((zfiushr l0 1) &&& 1431655765)) &&& 858993459) + ((zfiushr (l0 - ((zfiushr l0 1) &&& 1431655765)) 2) &&& 858993459)) 4)) &&& 252645135) 8)) + (zfiushr ((((((l0 - ((zfiushr l0 1) &&& 1431655765)) &&& 858993459) + ((zfiushr (l0 - ((zfiushr l0 1) &&& 1431655765)) 2) &&& 858993459)) + (zfiushr (((l0 - ((zfiushr l0 1) &&& 1431655765)) &&& 858993459) + ((zfiushr (l0 - ((zfiushr l0 1) &&& 1431655765)) 2) &&& 858993459)) 4)) &&& 252645135) + (zfiushr (((((l0 - ((zfiushr l0 1) &&& 1431655765)) &&& 858993459) + ((zfiushr (l0 - ((zfiushr l0 1) &&& 1431655765)) 2) &&& 858993459)) + (zfiushr (((l0 - ((zfiushr l0 1) &&& 1431655765)) &&& 858993459) + ((zfiushr (l0 - ((zfiushr l0 1) &&& 1431655765)) 2) &&& 858993459)) 4)) &&& 252645135) 8)) 16)) &&& 63)), (zk B im lm)) := ze_ret (ok := true) rfl 42 rfl rfl
def m_29 (l0 : Int32) (im : zI) (lm : zJ) : zR :=
    some (((((((((l0 - ((zfiushr l0 1) &&& 1431655765)) &&& 858993459) + ((zfiushr (l0 - ((zfiushr l0 1) &&& 1431655765)) 2) &&& 858993459)) + (zfiushr (((l0 - ((zfiushr l0 1) &&& 1431655765)) &&& 858993459) + ((zfiushr (l0 - ((zfiushr l0 1) &&& 1431655765)) 2) &&& 858993459)) 4)) &&& 252645135) + (zfiushr (((((l0 - ((zfiushr l0 1) &&& 1431655765)) &&& 858993459) + ((zfiushr (l0 - ((zfiushr l0 1) &&& 1431655765)) 2) &&& 858993459)) + (zfiushr (((l0 - ((zfiushr l0 1) &&& 1431655765)) &&& 858993459) + ((zfiushr (l0 - ((zfiushr l0 1) &&& 1431655765)) 2) &&& 858993459)) 4)) &&& 252645135) 8)) + (zfiushr ((((((l0 - ((zfiushr l0 1) &&& 1431655765)) &&& 858993459) + ((zfiushr (l0 - ((zfiushr l0 1) &&& 1431655765)) 2) &&& 858993459)) + (zfiushr (((l0 - ((zfiushr l0 1) &&& 1431655765)) &&& 858993459) + ((zfiushr (l0 - ((zfiushr l0 1) &&& 1431655765)) 2) &&& 858993459)) 4)) &&& 252645135) + (zfiushr (((((l0 - ((zfiushr l0 1) &&& 1431655765)) &&& 858993459) + ((zfiushr (l0 - ((zfiushr l0 1) &&& 1431655765)) 2) &&& 858993459)) + (zfiushr (((l0 - ((zfiushr l0 1) &&& 1431655765)) &&& 858993459) + ((zfiushr (l0 - ((zfiushr l0 1) &&& 1431655765)) 2) &&& 858993459)) 4)) &&& 252645135) 8)) 16)) &&& 63), im, lm)
theorem m_29_ok {B : zeB} (l0 : Int32) (im : zI) (lm : zJ) : zL B 1 (m_29 l0 im lm) (zeRun 29 0 [some (.int l0)] [] (zk B im lm)) := by
  unfold m_29
  exact zL_ret (d_29_0 _)
/-! X7_isClueUnderWay -/
theorem d_174_0 {B : zeB} {im : Nat → Nat → Int32} {lm : Nat → Nat → Int64}   : zeRun 174 0 [some (.ref 16)] [] (zk B im lm) = if (im 17 0) = 1 then zeRun 174 33 [some (.ref 16)] [] (zk B im lm) else zeRun 174 11 [some (.ref 16)] [] (zk B im lm) := ze_if (ok := true) rfl 5 rfl rfl
theorem d_174_33 {B : zeB} {im : Nat → Nat → Int32} {lm : Nat → Nat → Int64} (o0 : Option Value)  : zeRun 174 33 [o0] [] (zk B im lm) = some (some (.int 1), (zk B im lm)) := ze_ret (ok := true) rfl 3 rfl rfl
theorem d_174_11 {B : zeB} {im : Nat → Nat → Int32} {lm : Nat → Nat → Int64}   : zeRun 174 11 [some (.ref 16)] [] (zk B im lm) = if (im 17 0) = 2 then zeRun 174 33 [some (.ref 16)] [] (zk B im lm) else zeRun 174 22 [some (.ref 16)] [] (zk B im lm) := ze_if (ok := true) rfl 5 rfl rfl
theorem d_174_22 {B : zeB} {im : Nat → Nat → Int32} {lm : Nat → Nat → Int64}   : zeRun 174 22 [some (.ref 16)] [] (zk B im lm) = if (im 17 0) = 3 then zeRun 174 33 [some (.ref 16)] [] (zk B im lm) else zeRun 174 37 [some (.ref 16)] [] (zk B im lm) := ze_if (ok := true) rfl 5 rfl rfl
theorem d_174_37 {B : zeB} {im : Nat → Nat → Int32} {lm : Nat → Nat → Int64} (o0 : Option Value)  : zeRun 174 37 [o0] [] (zk B im lm) = some (some (.int 0), (zk B im lm)) := ze_ret (ok := true) rfl 2 rfl rfl
def m_174  (im : zI) (lm : zJ) : zR :=
    some (if (im 17 0) = 1 then 1 else if (im 17 0) = 2 then 1 else if (im 17 0) = 3 then 1 else 0, im, lm)
theorem m_174_ok {B : zeB}  (im : zI) (lm : zJ) : zL B 1 (m_174  im lm) (zeRun 174 0 [some (.ref 16)] [] (zk B im lm)) := by
  unfold m_174
  refine zL_ifm d_174_0 (fun h => ?_) (fun h => ?_)
  · repeat rw [if_pos h]
    exact zL_ret (d_174_33 _)
  · repeat rw [if_neg h]
    refine zL_ifm d_174_11 (fun h => ?_) (fun h => ?_)
    · repeat rw [if_pos h]
      exact zL_ret (d_174_33 _)
    · repeat rw [if_neg h]
      refine zL_ifm d_174_22 (fun h => ?_) (fun h => ?_)
      · repeat rw [if_pos h]
        exact zL_ret (d_174_33 _)
      · repeat rw [if_neg h]
        exact zL_ret (d_174_37 _)
/-! X7_controller -/
theorem d_39_0 {B : zeB} {im : Nat → Nat → Int32} {lm : Nat → Nat → Int64}   : zeRun 39 0 [some (.ref 16)] [] (zk B im lm) = if (im 17 1) = 0 then zeRun 39 10 [some (.ref 16)] [] (zk B im lm) else zeRun 39 15 [some (.ref 16)] [] (zk B im lm) := ze_if (ok := true) rfl 4 rfl rfl
theorem d_39_10 {B : zeB} {im : Nat → Nat → Int32} {lm : Nat → Nat → Int64} (o0 : Option Value)  : zeRun 39 10 [o0] [] (zk B im lm) = some (some (.int (-10000005)), (zk B im lm)) := ze_ret (ok := true) rfl 3 rfl rfl
theorem d_39_15 {B : zeB} {im : Nat → Nat → Int32} {lm : Nat → Nat → Int64}   : zeRun 39 15 [some (.ref 16)] [] (zk B im lm) = some (some (.int (im 32 0)), (zk B im lm)) := ze_ret (ok := true) rfl 4 rfl rfl
def m_39  (im : zI) (lm : zJ) : zR :=
    some (if (im 17 1) = 0 then (-10000005) else (im 32 0), im, lm)
theorem m_39_ok {B : zeB}  (im : zI) (lm : zJ) : zL B 1 (m_39  im lm) (zeRun 39 0 [some (.ref 16)] [] (zk B im lm)) := by
  unfold m_39
  refine zL_ifm d_39_0 (fun h => ?_) (fun h => ?_)
  · repeat rw [if_pos h]
    exact zL_ret (d_39_10 _)
  · repeat rw [if_neg h]
    exact zL_ret d_39_15
