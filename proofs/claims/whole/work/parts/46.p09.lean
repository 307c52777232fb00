/-! pure: X8_answer, X7_doClose, X7_close, X8_checkClose, X8_closes, X8_close, X7_doWager, X7_wager, X8_limit, X8_checkWager, X8_tellsWager, X8_wager, X0_begin, X7_doBeginFinal, X7_beginFinal, X8_beginFinal, X0_isWagerWanting, X0_wagersWanting -/
/-! X8_answer -/
theorem d_91_0 {B : zeB} {im : Nat → Nat → Int32} {lm : Nat → Nat → Int64} (l1 : Int32) (o2 : Option Value)  : zeRun 91 0 [some (.ref 170), some (.int l1), o2] [] (zk B im lm) = zeBh 91 4 [some (.ref 170), some (.int l1), o2] [] (zeRun 87 0 [some (.ref 170), none] [] (zk B im lm)) := ze_call (ok := true) rfl 2 rfl rfl rfl
theorem d_91_4 {B : zeB} {im : Nat → Nat → Int32} {lm : Nat → Nat → Int64} (l1 : Int32) (o2 : Option Value) (s0 : Int32)  : zeRun 91 4 [some (.ref 170), some (.int l1), o2] [.int s0] (zk B im lm) = if 0 ≤ s0 then zeRun 91 11 [some (.ref 170), some (.int l1), some (.int s0)] [] (zk B im lm) else zeRun 91 9 [some (.ref 170), some (.int l1), some (.int s0)] [] (zk B im lm) := ze_if (ok := true) rfl 3 rfl rfl
theorem d_91_11 {B : zeB} {im : Nat → Nat → Int32} {lm : Nat → Nat → Int64} (l1 : Int32) (o2 : Option Value)  : zeRun 91 11 [some (.ref 170), some (.int l1), o2] [] (zk B im lm) = zeBh 91 15 [some (.ref 170), some (.int l1), o2] [] (zeRun 25 0 [some (.ref 170), none] [] (zk B im lm)) := ze_call (ok := true) rfl 2 rfl rfl rfl
theorem d_91_15 {B : zeB} {im : Nat → Nat → Int32} {lm : Nat → Nat → Int64} (l1 : Int32) (o2 : Option Value)  : zeRun 91 15 [some (.ref 170), some (.int l1), o2] [] (zk B im lm) = if l1 = 0 then zeRun 91 24 [some (.ref 170), some (.int l1), o2] [.ref 170] (zk B im lm) else zeRun 91 20 [some (.ref 170), some (.int l1), o2] [.ref 170] (zk B im lm) := ze_if (ok := true) rfl 3 rfl rfl
theorem d_91_24 {B : zeB} {im : Nat → Nat → Int32} {lm : Nat → Nat → Int64} (o0 : Option Value) (o1 : Option Value) (o2 : Option Value)  : zeRun 91 24 [o0, o1, o2] [.ref 170] (zk B im lm) = zeRun 91 25 [o0, o1, o2] [.int 0, .ref 170] (zk B im lm) := ze_go (ok := true) rfl 1 rfl rfl
theorem d_91_20 {B : zeB} {im : Nat → Nat → Int32} {lm : Nat → Nat → Int64} (o0 : Option Value) (o1 : Option Value) (o2 : Option Value)  : zeRun 91 20 [o0, o1, o2] [.ref 170] (zk B im lm) = zeRun 91 25 [o0, o1, o2] [.int 1, .ref 170] (zk B im lm) := ze_go (ok := true) rfl 2 rfl rfl
theorem d_91_9 {B : zeB} {im : Nat → Nat → Int32} {lm : Nat → Nat → Int64} (o0 : Option Value) (o1 : Option Value) (l2 : Int32)  : zeRun 91 9 [o0, o1, some (.int l2)] [] (zk B im lm) = some (some (.int l2), (zk B im lm)) := ze_ret (ok := true) rfl 2 rfl rfl
theorem d_91_25 {B : zeB} {im : Nat → Nat → Int32} {lm : Nat → Nat → Int64} (o0 : Option Value) (o1 : Option Value) (o2 : Option Value) (s1 : Int32)  : zeRun 91 25 [o0, o1, o2] [.int s1, .ref 170] (zk B im lm) = zeBh 91 28 [o0, o1, o2] [] (zeRun 90 0 [some (.ref 170), some (.int s1), none, none, none, none, none] [] (zk B im lm)) := ze_call (ok := true) rfl 1 rfl rfl rfl
theorem d_91_28 {B : zeB} {im : Nat → Nat → Int32} {lm : Nat → Nat → Int64} (o0 : Option Value) (o1 : Option Value) (o2 : Option Value) (s0 : Int32)  : zeRun 91 28 [o0, o1, o2] [.int s0] (zk B im lm) = some (some (.int s0), (zk B im lm)) := ze_ret (ok := true) rfl 1 rfl rfl
def J_91_25  (s1 : Int32) (im : zI) (lm : zJ) : zR :=
    zBd (m_90 s1 im lm) fun v1 im1 lm1 =>
    some (v1, im1, lm1)
theorem J_91_25_ok {B : zeB} (s1 : Int32) (o0 : Option Value) (o1 : Option Value) (o2 : Option Value) (im : zI) (lm : zJ) : zL B 1 (J_91_25  s1 im lm) (zeRun 91 25 [o0, o1, o2] [.int s1, .ref 170] (zk B im lm)) := by
  unfold J_91_25
  refine zL_bd (d_91_25 _ _ _ _) (m_90_ok _ _ _) fun v1 im1 lm1 => ?_
  exact zL_ret (d_91_28 _ _ _ _)
def m_91 (l1 : Int32) (im : zI) (lm : zJ) : zR :=
    zBd (m_87  im lm) fun v1 im1 lm1 =>
    if 0 ≤ v1 then
      zBd (m_25  im1 lm1) fun _ im2 lm2 =>
      J_91_25   (if l1 = 0 then 0 else 1) im2 lm2
    else
      some (v1, im1, lm1)
theorem m_91_ok {B : zeB} (l1 : Int32) (im : zI) (lm : zJ) : zL B 1 (m_91 l1 im lm) (zeRun 91 0 [some (.ref 170), some (.int l1), none] [] (zk B im lm)) := by
  unfold m_91
  refine zL_bd (d_91_0 _ _) (m_87_ok _ _) fun v1 im1 lm1 => ?_
  refine zL_if (d_91_4 _ _ _) (fun h => ?_) (fun h => ?_)
  · skip
    refine zL_bdv (d_91_11 _ _) (m_25_ok _ _) fun _ im2 lm2 => ?_
    refine zL_ifm (d_91_15 _ _) (fun h => ?_) (fun h => ?_)
    · repeat rw [if_pos h]
      refine zL_eq (d_91_24 _ _ _) ?_
      exact J_91_25_ok   _ _ _ _ _ _
    · repeat rw [if_neg h]
      refine zL_eq (d_91_20 _ _ _) ?_
      exact J_91_25_ok   _ _ _ _ _ _
  · skip
    exact zL_ret (d_91_9 _ _ _)
/-! X7_doClose -/
theorem d_92_0 {B : zeB} {im : Nat → Nat → Int32} {lm : Nat → Nat → Int64}   : zeRun 92 0 [some (.ref 16)] [] (zk B im lm) = if (im 17 0) = 1 then zeRun 92 17 [some (.ref 16)] [] (zk B im lm) else zeRun 92 11 [some (.ref 16)] [] (zk B im lm) := ze_if (ok := true) rfl 5 rfl rfl
theorem d_92_17 {B : zeB} {im : Nat → Nat → Int32} {lm : Nat → Nat → Int64}   : zeRun 92 17 [some (.ref 16)] [] (zk B im lm) = zeBh 92 38 [some (.ref 16)] [] (zeRun 29 0 [some (.int (im 19 4))] [] (zk B (zeU2 im 17 0 0) lm)) := ze_call (ok := true) rfl 9 rfl rfl rfl
theorem d_92_38 {B : zeB} {im : Nat → Nat → Int32} {lm : Nat → Nat → Int64} (o0 : Option Value) (s0 : Int32)  : zeRun 92 38 [o0] [.int s0] (zk B im lm) = some (some (.int s0), (zk B im lm)) := ze_ret (ok := true) rfl 1 rfl rfl
theorem d_92_11 {B : zeB} {im : Nat → Nat → Int32} {lm : Nat → Nat → Int64}   : zeRun 92 11 [some (.ref 16)] [] (zk B im lm) = zeBh 92 16 [some (.ref 16)] [] (zeRun 17 0 [some (.ref 16), some (.int 1)] [] (zk B im lm)) := ze_call (ok := true) rfl 3 rfl rfl rfl
theorem d_92_16 {B : zeB} {im : Nat → Nat → Int32} {lm : Nat → Nat → Int64} (o0 : Option Value) (s0 : Int32)  : zeRun 92 16 [o0] [.int s0] (zk B im lm) = some (some (.int s0), (zk B im lm)) := ze_ret (ok := true) rfl 1 rfl rfl
def m_92  (im : zI) (lm : zJ) : zR :=
    if (im 17 0) = 1 then
      zBd (m_29 (im 19 4) (zeU2 im 17 0 0) lm) fun v1 im1 lm1 =>
      some (v1, im1, lm1)
    else
      zBd (m_17 1 im lm) fun v2 im2 lm2 =>
      some (v2, im2, lm2)
theorem m_92_ok {B : zeB}  (im : zI) (lm : zJ) : zL B 1 (m_92  im lm) (zeRun 92 0 [some (.ref 16)] [] (zk B im lm)) := by
  unfold m_92
  refine zL_if d_92_0 (fun h => ?_) (fun h => ?_)
  · skip
    refine zL_bd d_92_17 (m_29_ok _ _ _) fun v1 im1 lm1 => ?_
    exact zL_ret (d_92_38 _ _)
  · skip
    refine zL_bd d_92_11 (m_17_ok _ _ _) fun v2 im2 lm2 => ?_
    exact zL_ret (d_92_16 _ _)
/-! X7_close -/
theorem d_93_0 {B : zeB} {im : Nat → Nat → Int32} {lm : Nat → Nat → Int64}   : zeRun 93 0 [some (.ref 16)] [] (zk B im lm) = zeBh 93 11 [some (.ref 16)] [] (zeRun 15 0 [some (.ref 42), some (.ref 17)] [] (zk B im lm)) := ze_call (ok := true) rfl 5 rfl rfl rfl
theorem d_93_11 {B : zeB} {im : Nat → Nat → Int32} {lm : Nat → Nat → Int64}   : zeRun 93 11 [some (.ref 16)] [] (zk B im lm) = zeBh 93 16 [some (.ref 16)] [.ref 16] (zeRun 92 0 [some (.ref 16)] [] (zk B im lm)) := ze_call (ok := true) rfl 3 rfl rfl rfl
theorem d_93_16 {B : zeB} {im : Nat → Nat → Int32} {lm : Nat → Nat → Int64} (o0 : Option Value) (s1 : Int32)  : zeRun 93 16 [o0] [.int s1, .ref 16] (zk B im lm) = zeBh 93 19 [o0] [] (zeRun 21 0 [some (.ref 16), some (.int s1)] [] (zk B im lm)) := ze_call (ok := true) rfl 1 rfl rfl rfl
theorem d_93_19 {B : zeB} {im : Nat → Nat → Int32} {lm : Nat → Nat → Int64} (o0 : Option Value) (s0 : Int32)  : zeRun 93 19 [o0] [.int s0] (zk B im lm) = some (some (.int s0), (zk B im lm)) := ze_ret (ok := true) rfl 1 rfl rfl
def m_93  (im : zI) (lm : zJ) : zR :=
    zBd (m_15  im lm) fun _ im1 lm1 =>
    zBd (m_92  im1 lm1) fun v2 im2 lm2 =>
    zBd (m_21 v2 im2 lm2) fun v3 im3 lm3 =>
    some (v3, im3, lm3)
theorem m_93_ok {B : zeB}  (im : zI) (lm : zJ) : zL B 1 (m_93  im lm) (zeRun 93 0 [some (.ref 16)] [] (zk B im lm)) := by
  unfold m_93
  refine zL_bdv d_93_0 (m_15_ok _ _) fun _ im1 lm1 => ?_
  refine zL_bd d_93_11 (m_92_ok _ _) fun v2 im2 lm2 => ?_
  refine zL_bd (d_93_16 _ _) (m_21_ok _ _ _) fun v3 im3 lm3 => ?_
  exact zL_ret (d_93_19 _ _)
/-! X8_checkClose -/
theorem d_94_0 {B : zeB} {im : Nat → Nat → Int32} {lm : Nat → Nat → Int64}   : zeRun 94 0 [some (.ref 170)] [] (zk B im lm) = if (im 171 0) = 1 then zeRun 94 10 [some (.ref 170)] [] (zk B im lm) else zeRun 94 14 [some (.ref 170)] [] (zk B im lm) := ze_if (ok := true) rfl 6 rfl rfl
theorem d_94_10 {B : zeB} {im : Nat → Nat → Int32} {lm : Nat → Nat → Int64} (o0 : Option Value)  : zeRun 94 10 [o0] [] (zk B im lm) = some (some (.int 0), (zk B im lm)) := ze_ret (ok := true) rfl 3 rfl rfl
theorem d_94_14 {B : zeB} {im : Nat → Nat → Int32} {lm : Nat → Nat → Int64}   : zeRun 94 14 [some (.ref 170)] [] (zk B im lm) = zeBh 94 19 [some (.ref 170)] [] (zeRun 24 0 [some (.ref 170), some (.int 1)] [] (zk B im lm)) := ze_call (ok := true) rfl 3 rfl rfl rfl
theorem d_94_19 {B : zeB} {im : Nat → Nat → Int32} {lm : Nat → Nat → Int64} (o0 : Option Value) (s0 : Int32)  : zeRun 94 19 [o0] [.int s0] (zk B im lm) = some (some (.int s0), (zk B im lm)) := ze_ret (ok := true) rfl 1 rfl rfl
def m_94  (im : zI) (lm : zJ) : zR :=
    if (im 171 0) = 1 then
      some (0, im, lm)
    else
      zBd (m_24 1 im lm) fun v1 im1 lm1 =>
      some (v1, im1, lm1)
theorem m_94_ok {B : zeB}  (im : zI) (lm : zJ) : zL B 1 (m_94  im lm) (zeRun 94 0 [some (.ref 170)] [] (zk B im lm)) := by
  unfold m_94
  refine zL_if d_94_0 (fun h => ?_) (fun h => ?_)
  · skip
    exact zL_ret (d_94_10 _)
  · skip
    refine zL_bd d_94_14 (m_24_ok _ _ _) fun v1 im1 lm1 => ?_
    exact zL_ret (d_94_19 _ _)
/-! X8_closes -/
theorem d_95_0 {B : zeB} {im : Nat → Nat → Int32} {lm : Nat → Nat → Int64}   : zeRun 95 0 [some (.ref 170)] [] (zk B im lm) = zeBh 95 24 [some (.ref 170)] [] (zeRun 33 0 [some (.int (im 171 14)), none, none] [] (zk B (zeU2 (zeU2 im 171 0 0) 171 2 (-1)) lm)) := ze_call (ok := true) rfl 15 rfl rfl rfl
theorem d_95_24 {B : zeB} {im : Nat → Nat → Int32} {lm : Nat → Nat → Int64} (o0 : Option Value) (s0 : Int32)  : zeRun 95 24 [o0] [.int s0] (zk B im lm) = some (some (.int s0), (zk B im lm)) := ze_ret (ok := true) rfl 1 rfl rfl
def m_95  (im : zI) (lm : zJ) : zR :=
    zBd (m_33 (im 171 14) (zeU2 (zeU2 im 171 0 0) 171 2 (-1)) lm) fun v1 im1 lm1 =>
    some (v1, im1, lm1)
theorem m_95_ok {B : zeB}  (im : zI) (lm : zJ) : zL B 1 (m_95  im lm) (zeRun 95 0 [some (.ref 170)] [] (zk B im lm)) := by
  unfold m_95
  refine zL_bd d_95_0 (m_33_ok _ _ _) fun v1 im1 lm1 => ?_
  exact zL_ret (d_95_24 _ _)
/-! X8_close -/
theorem d_96_0 {B : zeB} {im : Nat → Nat → Int32} {lm : Nat → Nat → Int64} (o1 : Option Value)  : zeRun 96 0 [some (.ref 170), o1] [] (zk B im lm) = zeBh 96 4 [some (.ref 170), o1] [] (zeRun 94 0 [some (.ref 170)] [] (zk B im lm)) := ze_call (ok := true) rfl 2 rfl rfl rfl
theorem d_96_4 {B : zeB} {im : Nat → Nat → Int32} {lm : Nat → Nat → Int64} (o1 : Option Value) (s0 : Int32)  : zeRun 96 4 [some (.ref 170), o1] [.int s0] (zk B im lm) = if 0 ≤ s0 then zeRun 96 11 [some (.ref 170), some (.int s0)] [] (zk B im lm) else zeRun 96 9 [some (.ref 170), some (.int s0)] [] (zk B im lm) := ze_if (ok := true) rfl 3 rfl rfl
theorem d_96_11 {B : zeB} {im : Nat → Nat → Int32} {lm : Nat → Nat → Int64} (o1 : Option Value)  : zeRun 96 11 [some (.ref 170), o1] [] (zk B im lm) = zeBh 96 15 [some (.ref 170), o1] [] (zeRun 25 0 [some (.ref 170), none] [] (zk B im lm)) := ze_call (ok := true) rfl 2 rfl rfl rfl
theorem d_96_15 {B : zeB} {im : Nat → Nat → Int32} {lm : Nat → Nat → Int64} (o1 : Option Value)  : zeRun 96 15 [some (.ref 170), o1] [] (zk B im lm) = zeBh 96 19 [some (.ref 170), o1] [] (zeRun 95 0 [some (.ref 170)] [] (zk B im lm)) := ze_call (ok := true) rfl 2 rfl rfl rfl
theorem d_96_19 {B : zeB} {im : Nat → Nat → Int32} {lm : Nat → Nat → Int64} (o0 : Option Value) (o1 : Option Value) (s0 : Int32)  : zeRun 96 19 [o0, o1] [.int s0] (zk B im lm) = some (some (.int s0), (zk B im lm)) := ze_ret (ok := true) rfl 1 rfl rfl
theorem d_96_9 {B : zeB} {im : Nat → Nat → Int32} {lm : Nat → Nat → Int64} (o0 : Option Value) (l1 : Int32)  : zeRun 96 9 [o0, some (.int l1)] [] (zk B im lm) = some (some (.int l1), (zk B im lm)) := ze_ret (ok := true) rfl 2 rfl rfl
def m_96  (im : zI) (lm : zJ) : zR :=
    zBd (m_94  im lm) fun v1 im1 lm1 =>
    if 0 ≤ v1 then
      zBd (m_25  im1 lm1) fun _ im2 lm2 =>
      zBd (m_95  im2 lm2) fun v3 im3 lm3 =>
      some (v3, im3, lm3)
    else
      some (v1, im1, lm1)
theorem m_96_ok {B : zeB}  (im : zI) (lm : zJ) : zL B 1 (m_96  im lm) (zeRun 96 0 [some (.ref 170), none] [] (zk B im lm)) := by
  unfold m_96
  refine zL_bd (d_96_0 _) (m_94_ok _ _) fun v1 im1 lm1 => ?_
  refine zL_if (d_96_4 _ _) (fun h => ?_) (fun h => ?_)
  · skip
    refine zL_bdv (d_96_11 _) (m_25_ok _ _) fun _ im2 lm2 => ?_
    refine zL_bd (d_96_15 _) (m_95_ok _ _) fun v3 im3 lm3 => ?_
    exact zL_ret (d_96_19 _ _ _)
  · skip
    exact zL_ret (d_96_9 _ _)
/-! X7_doWager -/
theorem d_97_0 {B : zeB} {im : Nat → Nat → Int32} {lm : Nat → Nat → Int64} (l1 : Int32) (o2 : Option Value)  : zeRun 97 0 [some (.ref 16), some (.int l1), o2] [] (zk B im lm) = if l1 < 0 then zeRun 97 11 [some (.ref 16), some (.int l1), o2] [] (zk B im lm) else zeRun 97 4 [some (.ref 16), some (.int l1), o2] [] (zk B im lm) := ze_if (ok := true) rfl 2 rfl rfl
theorem d_97_11 {B : zeB} {im : Nat → Nat → Int32} {lm : Nat → Nat → Int64} (o0 : Option Value) (o1 : Option Value) (o2 : Option Value)  : zeRun 97 11 [o0, o1, o2] [] (zk B im lm) = some (some (.int (-10000002)), (zk B im lm)) := ze_ret (ok := true) rfl 2 rfl rfl
theorem d_97_4 {B : zeB} {im : Nat → Nat → Int32} {lm : Nat → Nat → Int64} (l1 : Int32) (o2 : Option Value)  : zeRun 97 4 [some (.ref 16), some (.int l1), o2] [] (zk B im lm) = if l1 ≤ 100000 then zeRun 97 14 [some (.ref 16), some (.int l1), o2] [] (zk B im lm) else zeRun 97 11 [some (.ref 16), some (.int l1), o2] [] (zk B im lm) := ze_if (ok := true) rfl 3 rfl rfl
theorem d_97_14 {B : zeB} {im : Nat → Nat → Int32} {lm : Nat → Nat → Int64} (l1 : Int32) (o2 : Option Value)  : zeRun 97 14 [some (.ref 16), some (.int l1), o2] [] (zk B im lm) = if (im 17 0) = 2 then zeRun 97 31 [some (.ref 16), some (.int l1), o2] [] (zk B im lm) else zeRun 97 25 [some (.ref 16), some (.int l1), o2] [] (zk B im lm) := ze_if (ok := true) rfl 5 rfl rfl
theorem d_97_31 {B : zeB} {im : Nat → Nat → Int32} {lm : Nat → Nat → Int64} (l1 : Int32) (o2 : Option Value)  : zeRun 97 31 [some (.ref 16), some (.int l1), o2] [] (zk B im lm) = zeBh 97 45 [some (.ref 16), some (.int l1), o2] [] (zeRun 137 0 [some (.ref 32), some (.int (im 32 0))] [] (zk B im lm)) := ze_call (ok := true) rfl 6 rfl rfl rfl
theorem d_97_45 {B : zeB} {im : Nat → Nat → Int32} {lm : Nat → Nat → Int64} (l1 : Int32) (o2 : Option Value) (s0 : Int32)  : zeRun 97 45 [some (.ref 16), some (.int l1), o2] [.int s0] (zk B im lm) = if l1 ≤ (if s0 < 500 then 500 else s0) then zeRun 97 63 [some (.ref 16), some (.int l1), some (.int (if s0 < 500 then 500 else s0))] [] (zk B im lm) else zeRun 97 57 [some (.ref 16), some (.int l1), some (.int (if s0 < 500 then 500 else s0))] [] (zk B im lm) := ze_if (ok := true) rfl 6 rfl rfl
theorem d_97_63 {B : zeB} {im : Nat → Nat → Int32} {lm : Nat → Nat → Int64} (l1 : Int32) (l2 : Int32)  : zeRun 97 63 [some (.ref 16), some (.int l1), some (.int l2)] [] (zk B im lm) = some (some (.int l2), (zk B (zeU2 (zeU2 im 19 3 l1) 17 0 3) lm)) := ze_ret (ok := true) rfl 11 rfl rfl
theorem d_97_57 {B : zeB} {im : Nat → Nat → Int32} {lm : Nat → Nat → Int64} (o1 : Option Value) (o2 : Option Value)  : zeRun 97 57 [some (.ref 16), o1, o2] [] (zk B im lm) = zeBh 97 62 [some (.ref 16), o1, o2] [] (zeRun 17 0 [some (.ref 16), some (.int 5)] [] (zk B im lm)) := ze_call (ok := true) rfl 3 rfl rfl rfl
theorem d_97_62 {B : zeB} {im : Nat → Nat → Int32} {lm : Nat → Nat → Int64} (o0 : Option Value) (o1 : Option Value) (o2 : Option Value) (s0 : Int32)  : zeRun 97 62 [o0, o1, o2] [.int s0] (zk B im lm) = some (some (.int s0), (zk B im lm)) := ze_ret (ok := true) rfl 1 rfl rfl
theorem d_97_25 {B : zeB} {im : Nat → Nat → Int32} {lm : Nat → Nat → Int64} (o1 : Option Value) (o2 : Option Value)  : zeRun 97 25 [some (.ref 16), o1, o2] [] (zk B im lm) = zeBh 97 30 [some (.ref 16), o1, o2] [] (zeRun 17 0 [some (.ref 16), some (.int 1)] [] (zk B im lm)) := ze_call (ok := true) rfl 3 rfl rfl rfl
theorem d_97_30 {B : zeB} {im : Nat → Nat → Int32} {lm : Nat → Nat → Int64} (o0 : Option Value) (o1 : Option Value) (o2 : Option Value) (s0 : Int32)  : zeRun 97 30 [o0, o1, o2] [.int s0] (zk B im lm) = some (some (.int s0), (zk B im lm)) := ze_ret (ok := true) rfl 1 rfl rfl
def m_97 (l1 : Int32) (im : zI) (lm : zJ) : zR :=
    if l1 < 0 then
      some ((-10000002), im, lm)
    else
      if l1 ≤ 100000 then
        if (im 17 0) = 2 then
          zBd (m_137 (im 32 0) im lm) fun v1 im1 lm1 =>
          if l1 ≤ (if v1 < 500 then 500 else v1) then
            some ((if v1 < 500 then 500 else v1), (zeU2 (zeU2 im1 19 3 l1) 17 0 3), lm1)
          else
            zBd (m_17 5 im1 lm1) fun v2 im2 lm2 =>
            some (v2, im2, lm2)
        else
          zBd (m_17 1 im lm) fun v3 im3 lm3 =>
          some (v3, im3, lm3)
      else
        some ((-10000002), im, lm)
theorem m_97_ok {B : zeB} (l1 : Int32) (im : zI) (lm : zJ) : zL B 1 (m_97 l1 im lm) (zeRun 97 0 [some (.ref 16), some (.int l1), none] [] (zk B im lm)) := by
  unfold m_97
  refine zL_if (d_97_0 _ _) (fun h => ?_) (fun h => ?_)
  · skip
    exact zL_ret (d_97_11 _ _ _)
  · skip
    refine zL_if (d_97_4 _ _) (fun h => ?_) (fun h => ?_)
    · skip
      refine zL_if (d_97_14 _ _) (fun h => ?_) (fun h => ?_)
      · skip
        refine zL_bd (d_97_31 _ _) (m_137_ok _ _ _) fun v1 im1 lm1 => ?_
        refine zL_if (d_97_45 _ _ _) (fun h => ?_) (fun h => ?_)
        · skip
          exact zL_ret (d_97_63 _ _)
        · skip
          refine zL_bd (d_97_57 _ _) (m_17_ok _ _ _) fun v2 im2 lm2 => ?_
          exact zL_ret (d_97_62 _ _ _ _)
      · skip
        refine zL_bd (d_97_25 _ _) (m_17_ok _ _ _) fun v3 im3 lm3 => ?_
        exact zL_ret (d_97_30 _ _ _ _)
    · skip
      exact zL_ret (d_97_11 _ _ _)
/-! X7_wager -/
theorem d_98_0 {B : zeB} {im : Nat → Nat → Int32} {lm : Nat → Nat → Int64} (l1 : Int32)  : zeRun 98 0 [some (.ref 16), some (.int l1)] [] (zk B im lm) = zeBh 98 11 [some (.ref 16), some (.int l1)] [] (zeRun 15 0 [some (.ref 42), some (.ref 17)] [] (zk B im lm)) := ze_call (ok := true) rfl 5 rfl rfl rfl
theorem d_98_11 {B : zeB} {im : Nat → Nat → Int32} {lm : Nat → Nat → Int64} (l1 : Int32)  : zeRun 98 11 [some (.ref 16), some (.int l1)] [] (zk B im lm) = zeBh 98 17 [some (.ref 16), some (.int l1)] [.ref 16] (zeRun 97 0 [some (.ref 16), some (.int l1), none] [] (zk B im lm)) := ze_call (ok := true) rfl 4 rfl rfl rfl
theorem d_98_17 {B : zeB} {im : Nat → Nat → Int32} {lm : Nat → Nat → Int64} (o0 : Option Value) (o1 : Option Value) (s1 : Int32)  : zeRun 98 17 [o0, o1] [.int s1, .ref 16] (zk B im lm) = zeBh 98 20 [o0, o1] [] (zeRun 21 0 [some (.ref 16), some (.int s1)] [] (zk B im lm)) := ze_call (ok := true) rfl 1 rfl rfl rfl
theorem d_98_20 {B : zeB} {im : Nat → Nat → Int32} {lm : Nat → Nat → Int64} (o0 : Option Value) (o1 : Option Value) (s0 : Int32)  : zeRun 98 20 [o0, o1] [.int s0] (zk B im lm) = some (some (.int s0), (zk B im lm)) := ze_ret (ok := true) rfl 1 rfl rfl
def m_98 (l1 : Int32) (im : zI) (lm : zJ) : zR :=
    zBd (m_15  im lm) fun _ im1 lm1 =>
    zBd (m_97 l1 im1 lm1) fun v2 im2 lm2 =>
    zBd (m_21 v2 im2 lm2) fun v3 im3 lm3 =>
    some (v3, im3, lm3)
theorem m_98_ok {B : zeB} (l1 : Int32) (im : zI) (lm : zJ) : zL B 1 (m_98 l1 im lm) (zeRun 98 0 [some (.ref 16), some (.int l1)] [] (zk B im lm)) := by
  unfold m_98
  refine zL_bdv (d_98_0 _) (m_15_ok _ _) fun _ im1 lm1 => ?_
  refine zL_bd (d_98_11 _) (m_97_ok _ _ _) fun v2 im2 lm2 => ?_
  refine zL_bd (d_98_17 _ _ _) (m_21_ok _ _ _) fun v3 im3 lm3 => ?_
  exact zL_ret (d_98_20 _ _ _)
/-! X8_limit -/
theorem d_99_0 {B : zeB} {im : Nat → Nat → Int32} {lm : Nat → Nat → Int64}   : zeRun 99 0 [some (.ref 170)] [] (zk B im lm) = zeBh 99 4 [some (.ref 170)] [] (zeRun 47 0 [some (.ref 170), none, none, none, none, none, none] [] (zk B im lm)) := ze_call (ok := true) rfl 2 rfl rfl rfl
theorem d_99_4 {B : zeB} {im : Nat → Nat → Int32} {lm : Nat → Nat → Int64}  (c0 : zeInb (im 170 13) 6 = true) : zeRun 99 4 [some (.ref 170)] [] (zk B im lm) = if (im 175 (Int32.toNatClampNeg (im 170 13))) ≤ 500 then zeRun 99 31 [some (.ref 170)] [] (zk B im lm) else zeRun 99 19 [some (.ref 170)] [] (zk B im lm) := ze_if (ok := (zeInb (im 170 13) 6 && true)) rfl 7 rfl (zeA2 c0 rfl)
theorem d_99_31 {B : zeB} {im : Nat → Nat → Int32} {lm : Nat → Nat → Int64} (o0 : Option Value)  : zeRun 99 31 [o0] [] (zk B im lm) = some (some (.int 500), (zk B im lm)) := ze_ret (ok := true) rfl 2 rfl rfl
theorem d_99_19 {B : zeB} {im : Nat → Nat → Int32} {lm : Nat → Nat → Int64}  (c0 : zeInb (im 170 13) 6 = true) : zeRun 99 19 [some (.ref 170)] [] (zk B im lm) = some (some (.int (im 175 (Int32.toNatClampNeg (im 170 13)))), (zk B im lm)) := ze_ret (ok := (zeInb (im 170 13) 6 && true)) rfl 7 rfl (zeA2 c0 rfl)
def m_99  (im : zI) (lm : zJ) : zR :=
    zBd (m_47  im lm) fun _ im1 lm1 =>
    zCk (zeInb (im1 170 13) 6) <|
    some (if (im1 175 (Int32.toNatClampNeg (im1 170 13))) ≤ 500 then 500 else (im1 175 (Int32.toNatClampNeg (im1 170 13))), im1, lm1)
theorem m_99_ok {B : zeB}  (im : zI) (lm : zJ) : zL B 1 (m_99  im lm) (zeRun 99 0 [some (.ref 170)] [] (zk B im lm)) := by
  unfold m_99
  refine zL_bdv d_99_0 (m_47_ok _ _) fun _ im1 lm1 => ?_
  refine zL_ck fun c1 => ?_
  refine zL_ifm (d_99_4 c1) (fun h => ?_) (fun h => ?_)
  · repeat rw [if_pos h]
    exact zL_ret (d_99_31 _)
  · repeat rw [if_neg h]
    exact zL_ret (d_99_19 c1)
/-! X8_checkWager -/
theorem d_100_0 {B : zeB} {im : Nat → Nat → Int32} {lm : Nat → Nat → Int64} (l1 : Int32)  : zeRun 100 0 [some (.ref 170), some (.int l1)] [] (zk B im lm) = zeBh 100 7 [some (.ref 170), some (.int l1)] [] (zeRun 32 0 [some (.int l1), some (.int 0), some (.int 100000)] [] (zk B im lm)) := ze_call (ok := true) rfl 4 rfl rfl rfl
theorem d_100_7 {B : zeB} {im : Nat → Nat → Int32} {lm : Nat → Nat → Int64} (l1 : Int32) (s0 : Int32)  : zeRun 100 7 [some (.ref 170), some (.int l1)] [.int s0] (zk B im lm) = if s0 = 0 then zeRun 100 10 [some (.ref 170), some (.int l1)] [] (zk B im lm) else zeRun 100 13 [some (.ref 170), some (.int l1)] [] (zk B im lm) := ze_if (ok := true) rfl 1 rfl rfl
theorem d_100_10 {B : zeB} {im : Nat → Nat → Int32} {lm : Nat → Nat → Int64} (o0 : Option Value) (o1 : Option Value)  : zeRun 100 10 [o0, o1] [] (zk B im lm) = some (some (.int (-10000002)), (zk B im lm)) := ze_ret (ok := true) rfl 2 rfl rfl
theorem d_100_13 {B : zeB} {im : Nat → Nat → Int32} {lm : Nat → Nat → Int64} (l1 : Int32)  : zeRun 100 13 [some (.ref 170), some (.int l1)] [] (zk B im lm) = if (im 171 0) = 2 then zeRun 100 29 [some (.ref 170), some (.int l1)] [] (zk B im lm) else zeRun 100 23 [some (.ref 170), some (.int l1)] [] (zk B im lm) := ze_if (ok := true) rfl 6 rfl rfl
theorem d_100_29 {B : zeB} {im : Nat → Nat → Int32} {lm : Nat → Nat → Int64} (l1 : Int32)  : zeRun 100 29 [some (.ref 170), some (.int l1)] [] (zk B im lm) = zeBh 100 34 [some (.ref 170), some (.int l1)] [.int l1] (zeRun 99 0 [some (.ref 170)] [] (zk B im lm)) := ze_call (ok := true) rfl 3 rfl rfl rfl
theorem d_100_34 {B : zeB} {im : Nat → Nat → Int32} {lm : Nat → Nat → Int64} (o1 : Option Value) (s0 : Int32) (s1 : Int32)  : zeRun 100 34 [some (.ref 170), o1] [.int s1, .int s0] (zk B im lm) = if s0 ≤ s1 then zeRun 100 45 [some (.ref 170), o1] [] (zk B im lm) else zeRun 100 37 [some (.ref 170), o1] [] (zk B im lm) := ze_if (ok := true) rfl 1 rfl rfl
theorem d_100_45 {B : zeB} {im : Nat → Nat → Int32} {lm : Nat → Nat → Int64} (o0 : Option Value) (o1 : Option Value)  : zeRun 100 45 [o0, o1] [] (zk B im lm) = some (some (.int 0), (zk B im lm)) := ze_ret (ok := true) rfl 2 rfl rfl
theorem d_100_37 {B : zeB} {im : Nat → Nat → Int32} {lm : Nat → Nat → Int64} (o1 : Option Value)  : zeRun 100 37 [some (.ref 170), o1] [] (zk B im lm) = zeBh 100 42 [some (.ref 170), o1] [] (zeRun 24 0 [some (.ref 170), some (.int 5)] [] (zk B im lm)) := ze_call (ok := true) rfl 3 rfl rfl rfl
theorem d_100_42 {B : zeB} {im : Nat → Nat → Int32} {lm : Nat → Nat → Int64} (o0 : Option Value) (o1 : Option Value) (s0 : Int32)  : zeRun 100 42 [o0, o1] [.int s0] (zk B im lm) = some (some (.int s0), (zk B im lm)) := ze_ret (ok := true) rfl 2 rfl rfl
theorem d_100_23 {B : zeB} {im : Nat → Nat → Int32} {lm : Nat → Nat → Int64} (o1 : Option Value)  : zeRun 100 23 [some (.ref 170), o1] [] (zk B im lm) = zeBh 100 28 [some (.ref 170), o1] [] (zeRun 24 0 [some (.ref 170), some (.int 1)] [] (zk B im lm)) := ze_call (ok := true) rfl 3 rfl rfl rfl
theorem d_100_28 {B : zeB} {im : Nat → Nat → Int32} {lm : Nat → Nat → Int64} (o0 : Option Value) (o1 : Option Value) (s0 : Int32)  : zeRun 100 28 [o0, o1] [.int s0] (zk B im lm) = some (some (.int s0), (zk B im lm)) := ze_ret (ok := true) rfl 1 rfl rfl
def m_100 (l1 : Int32) (im : zI) (lm : zJ) : zR :=
    if (if l1 < 0 then 0 else if 100000 < l1 then 0 else 1 : Int32) = 0 then
      some ((-10000002), im, lm)
    else
      if (im 171 0) = 2 then
        zBd (m_99  im lm) fun v2 im2 lm2 =>
        if l1 ≤ v2 then
          some (0, im2, lm2)
        else
          zBd (m_24 5 im2 lm2) fun v3 im3 lm3 =>
          some (v3, im3, lm3)
      else
        zBd (m_24 1 im lm) fun v4 im4 lm4 =>
        some (v4, im4, lm4)
theorem m_100_ok {B : zeB} (l1 : Int32) (im : zI) (lm : zJ) : zL B 1 (m_100 l1 im lm) (zeRun 100 0 [some (.ref 170), some (.int l1)] [] (zk B im lm)) := by
  unfold m_100
  refine zL_bdp (e := (if l1 < 0 then 0 else if 100000 < l1 then 0 else 1 : Int32)) (d_100_0 _) (m_32_ok _ _ _ _ _) ?_
  refine zL_if (d_100_7 _ _) (fun h => ?_) (fun h => ?_)
  · skip
    exact zL_ret (d_100_10 _ _)
  · skip
    refine zL_if (d_100_13 _) (fun h => ?_) (fun h => ?_)
    · skip
      refine zL_bd (d_100_29 _) (m_99_ok _ _) fun v2 im2 lm2 => ?_
      refine zL_if (d_100_34 _ _ _) (fun h => ?_) (fun h => ?_)
      · skip
        exact zL_ret (d_100_45 _ _)
      · skip
        refine zL_bd (d_100_37 _) (m_24_ok _ _ _) fun v3 im3 lm3 => ?_
        exact zL_ret (d_100_42 _ _ _)
    · skip
      refine zL_bd (d_100_23 _) (m_24_ok _ _ _) fun v4 im4 lm4 => ?_
      exact zL_ret (d_100_28 _ _ _)
/-! X8_tellsWager -/
theorem d_101_0 {B : zeB} {im : Nat → Nat → Int32} {lm : Nat → Nat → Int64} (l1 : Int32)  : zeRun 101 0 [some (.ref 170), some (.int l1)] [] (zk B im lm) = zeBh 101 19 [some (.ref 170), some (.int l1)] [] (zeRun 99 0 [some (.ref 170)] [] (zk B (zeU2 (zeU2 im 171 12 l1) 171 0 3) lm)) := ze_call (ok := true) rfl 12 rfl rfl rfl
theorem d_101_19 {B : zeB} {im : Nat → Nat → Int32} {lm : Nat → Nat → Int64} (o0 : Option Value) (o1 : Option Value) (s0 : Int32)  : zeRun 101 19 [o0, o1] [.int s0] (zk B im lm) = some (some (.int s0), (zk B im lm)) := ze_ret (ok := true) rfl 1 rfl rfl
def m_101 (l1 : Int32) (im : zI) (lm : zJ) : zR :=
    zBd (m_99  (zeU2 (zeU2 im 171 12 l1) 171 0 3) lm) fun v1 im1 lm1 =>
    some (v1, im1, lm1)
theorem m_101_ok {B : zeB} (l1 : Int32) (im : zI) (lm : zJ) : zL B 1 (m_101 l1 im lm) (zeRun 101 0 [some (.ref 170), some (.int l1)] [] (zk B im lm)) := by
  unfold m_101
  refine zL_bd (d_101_0 _) (m_99_ok _ _) fun v1 im1 lm1 => ?_
  exact zL_ret (d_101_19 _ _ _)
/-! X8_wager -/
theorem d_102_0 {B : zeB} {im : Nat → Nat → Int32} {lm : Nat → Nat → Int64} (l1 : Int32) (o2 : Option Value)  : zeRun 102 0 [some (.ref 170), some (.int l1), o2] [] (zk B im lm) = zeBh 102 5 [some (.ref 170), some (.int l1), o2] [] (zeRun 100 0 [some (.ref 170), some (.int l1)] [] (zk B im lm)) := ze_call (ok := true) rfl 3 rfl rfl rfl
theorem d_102_5 {B : zeB} {im : Nat → Nat → Int32} {lm : Nat → Nat → Int64} (l1 : Int32) (o2 : Option Value) (s0 : Int32)  : zeRun 102 5 [some (.ref 170), some (.int l1), o2] [.int s0] (zk B im lm) = if 0 ≤ s0 then zeRun 102 12 [some (.ref 170), some (.int l1), some (.int s0)] [] (zk B im lm) else zeRun 102 10 [some (.ref 170), some (.int l1), some (.int s0)] [] (zk B im lm) := ze_if (ok := true) rfl 3 rfl rfl
theorem d_102_12 {B : zeB} {im : Nat → Nat → Int32} {lm : Nat → Nat → Int64} (l1 : Int32) (o2 : Option Value)  : zeRun 102 12 [some (.ref 170), some (.int l1), o2] [] (zk B im lm) = zeBh 102 16 [some (.ref 170), some (.int l1), o2] [] (zeRun 25 0 [some (.ref 170), none] [] (zk B im lm)) := ze_call (ok := true) rfl 2 rfl rfl rfl
theorem d_102_16 {B : zeB} {im : Nat → Nat → Int32} {lm : Nat → Nat → Int64} (l1 : Int32) (o2 : Option Value)  : zeRun 102 16 [some (.ref 170), some (.int l1), o2] [] (zk B im lm) = zeBh 102 21 [some (.ref 170), some (.int l1), o2] [] (zeRun 101 0 [some (.ref 170), some (.int l1)] [] (zk B im lm)) := ze_call (ok := true) rfl 3 rfl rfl rfl
theorem d_102_21 {B : zeB} {im : Nat → Nat → Int32} {lm : Nat → Nat → Int64} (o0 : Option Value) (o1 : Option Value) (o2 : Option Value) (s0 : Int32)  : zeRun 102 21 [o0, o1, o2] [.int s0] (zk B im lm) = some (some (.int s0), (zk B im lm)) := ze_ret (ok := true) rfl 1 rfl rfl
theorem d_102_10 {B : zeB} {im : Nat → Nat → Int32} {lm : Nat → Nat → Int64} (o0 : Option Value) (o1 : Option Value) (l2 : Int32)  : zeRun 102 10 [o0, o1, some (.int l2)] [] (zk B im lm) = some (some (.int l2), (zk B im lm)) := ze_ret (ok := true) rfl 2 rfl rfl
def m_102 (l1 : Int32) (im : zI) (lm : zJ) : zR :=
    zBd (m_100 l1 im lm) fun v1 im1 lm1 =>
    if 0 ≤ v1 then
      zBd (m_25  im1 lm1) fun _ im2 lm2 =>
      zBd (m_101 l1 im2 lm2) fun v3 im3 lm3 =>
      some (v3, im3, lm3)
    else
      some (v1, im1, lm1)
theorem m_102_ok {B : zeB} (l1 : Int32) (im : zI) (lm : zJ) : zL B 1 (m_102 l1 im lm) (zeRun 102 0 [some (.ref 170), some (.int l1), none] [] (zk B im lm)) := by
  unfold m_102
  refine zL_bd (d_102_0 _ _) (m_100_ok _ _ _) fun v1 im1 lm1 => ?_
  refine zL_if (d_102_5 _ _ _) (fun h => ?_) (fun h => ?_)
  · skip
    refine zL_bdv (d_102_12 _ _) (m_25_ok _ _) fun _ im2 lm2 => ?_
    refine zL_bd (d_102_16 _ _) (m_101_ok _ _ _) fun v3 im3 lm3 => ?_
    exact zL_ret (d_102_21 _ _ _ _)
  · skip
    exact zL_ret (d_102_10 _ _ _)
/-! X0_begin -/
theorem d_103_0 {B : zeB} {im : Nat → Nat → Int32} {lm : Nat → Nat → Int64} (o2 : Option Value)  : zeRun 103 0 [some (.ref 23), some (.ref 33), o2] [] (zk B im lm) = zeRun 103 2 [some (.ref 23), some (.ref 33), some (.int 0)] [] (zk B im lm) := ze_go (ok := true) rfl 2 rfl rfl
theorem d_103_2 {B : zeB} {im : Nat → Nat → Int32} {lm : Nat → Nat → Int64} (l2 : Int32)  : zeRun 103 2 [some (.ref 23), some (.ref 33), some (.int l2)] [] (zk B im lm) = if 6 ≤ l2 then zeRun 103 27 [some (.ref 23), some (.ref 33), some (.int l2)] [] (zk B im lm) else zeRun 103 8 [some (.ref 23), some (.ref 33), some (.int l2)] [] (zk B im lm) := ze_if (ok := true) rfl 3 rfl rfl
theorem d_103_27 {B : zeB} {im : Nat → Nat → Int32} {lm : Nat → Nat → Int64} (o0 : Option Value) (o1 : Option Value) (o2 : Option Value)  : zeRun 103 27 [o0, o1, o2] [] (zk B im lm) = some (none, (zk B im lm)) := ze_ret (ok := true) rfl 1 rfl rfl
theorem d_103_8 {B : zeB} {im : Nat → Nat → Int32} {lm : Nat → Nat → Int64} (l2 : Int32) (c0 : zeInb l2 6 = true) (c1 : zeInb l2 6 = true) : zeRun 103 8 [some (.ref 23), some (.ref 33), some (.int l2)] [] (zk B im lm) = zeRun 103 2 [some (.ref 23), some (.ref 33), some (.int (l2 + 1))] [] (zk B (zeU2 im 24 (Int32.toNatClampNeg l2) (if (im 33 (Int32.toNatClampNeg l2)) < 0 then 0 else (im 33 (Int32.toNatClampNeg l2)))) lm) := ze_go (ok := (zeInb l2 6 && (zeInb l2 6 && true))) rfl 11 rfl (zeA2 c1 (zeA2 c0 rfl))
def F_103_2  : Nat → Int32 → zI → zJ → zR
  | 0, _, _, _ => none
  | n + 1, l2, im, lm =>
    if 6 ≤ l2 then
      some (0, im, lm)
    else
      zCk (zeInb l2 6) <|
      F_103_2  n (l2 + 1) (zeU2 im 24 (Int32.toNatClampNeg l2) (if (im 33 (Int32.toNatClampNeg l2)) < 0 then 0 else (im 33 (Int32.toNatClampNeg l2)))) lm
theorem F_103_2_ok {B : zeB} : ∀ (n : Nat) (l2 : Int32)  (im : zI) (lm : zJ), zL B 0 (F_103_2  n l2 im lm) (zeRun 103 2 [some (.ref 23), some (.ref 33), some (.int l2)] [] (zk B im lm)) := by
  intro n
  induction n with
  | zero => intros; exact zL_none
  | succ n ih =>
    intro l2 im lm
    unfold F_103_2
    refine zL_if (d_103_2 _) (fun h => ?_) (fun h => ?_)
    · skip
      exact zL_retv (d_103_27 _ _ _)
    · skip
      refine zL_ck fun c1 => ?_
      refine zL_eq (d_103_8 _ c1 c1) ?_
      exact ih _ _ _
def m_103  (im : zI) (lm : zJ) : zR :=
    F_103_2  2000 0 im lm
theorem m_103_ok {B : zeB}  (im : zI) (lm : zJ) : zL B 0 (m_103  im lm) (zeRun 103 0 [some (.ref 23), some (.ref 33), none] [] (zk B im lm)) := by
  unfold m_103
  refine zL_eq (d_103_0 _) ?_
  exact F_103_2_ok  _ _ _ _
/-! X7_doBeginFinal -/
theorem d_104_0 {B : zeB} {im : Nat → Nat → Int32} {lm : Nat → Nat → Int64} (o1 : Option Value)  : zeRun 104 0 [some (.ref 16), o1] [] (zk B im lm) = if (im 17 1) = 0 then zeRun 104 10 [some (.ref 16), o1] [] (zk B im lm) else zeRun 104 17 [some (.ref 16), o1] [] (zk B im lm) := ze_if (ok := true) rfl 4 rfl rfl
theorem d_104_10 {B : zeB} {im : Nat → Nat → Int32} {lm : Nat → Nat → Int64} (o1 : Option Value)  : zeRun 104 10 [some (.ref 16), o1] [] (zk B im lm) = zeBh 104 16 [some (.ref 16), o1] [] (zeRun 17 0 [some (.ref 16), some (.int 8)] [] (zk B im lm)) := ze_call (ok := true) rfl 3 rfl rfl rfl
theorem d_104_16 {B : zeB} {im : Nat → Nat → Int32} {lm : Nat → Nat → Int64} (o0 : Option Value) (o1 : Option Value) (s0 : Int32)  : zeRun 104 16 [o0, o1] [.int s0] (zk B im lm) = some (some (.int s0), (zk B im lm)) := ze_ret (ok := true) rfl 1 rfl rfl
theorem d_104_17 {B : zeB} {im : Nat → Nat → Int32} {lm : Nat → Nat → Int64} (o1 : Option Value)  : zeRun 104 17 [some (.ref 16), o1] [] (zk B im lm) = if (im 17 0) = 0 then zeRun 104 33 [some (.ref 16), o1] [] (zk B im lm) else zeRun 104 27 [some (.ref 16), o1] [] (zk B im lm) := ze_if (ok := true) rfl 4 rfl rfl
theorem d_104_33 {B : zeB} {im : Nat → Nat → Int32} {lm : Nat → Nat → Int64} (o1 : Option Value)  : zeRun 104 33 [some (.ref 16), o1] [] (zk B im lm) = zeBh 104 50 [some (.ref 16), o1] [] (zeRun 103 0 [some (.ref 23), some (.ref 33), none] [] (zk B im lm)) := ze_call (ok := true) rfl 7 rfl rfl rfl
theorem d_104_50 {B : zeB} {im : Nat → Nat → Int32} {lm : Nat → Nat → Int64} (o1 : Option Value)  : zeRun 104 50 [some (.ref 16), o1] [] (zk B im lm) = zeBh 104 60 [some (.ref 16), o1] [] (zeRun 83 0 [some (.ref 23), none, none, none, none, none] [] (zk B im lm)) := ze_call (ok := true) rfl 4 rfl rfl rfl
theorem d_104_60 {B : zeB} {im : Nat → Nat → Int32} {lm : Nat → Nat → Int64} (o1 : Option Value) (s0 : Int32)  : zeRun 104 60 [some (.ref 16), o1] [.int s0] (zk B im lm) = if s0 = 0 then zeRun 104 69 [some (.ref 16), some (.int s0)] [.ref 17] (zk B im lm) else zeRun 104 74 [some (.ref 16), some (.int s0)] [.ref 17] (zk B im lm) := ze_if (ok := true) rfl 5 rfl rfl
theorem d_104_69 {B : zeB} {im : Nat → Nat → Int32} {lm : Nat → Nat → Int64} (o0 : Option Value) (l1 : Int32)  : zeRun 104 69 [o0, some (.int l1)] [.ref 17] (zk B im lm) = zeRun 104 75 [o0, some (.int l1)] [.int 6, .ref 17] (zk B im lm) := ze_go (ok := true) rfl 2 rfl rfl
theorem d_104_74 {B : zeB} {im : Nat → Nat → Int32} {lm : Nat → Nat → Int64} (o0 : Option Value) (l1 : Int32)  : zeRun 104 74 [o0, some (.int l1)] [.ref 17] (zk B im lm) = zeRun 104 75 [o0, some (.int l1)] [.int 4, .ref 17] (zk B im lm) := ze_go (ok := true) rfl 1 rfl rfl
theorem d_104_27 {B : zeB} {im : Nat → Nat → Int32} {lm : Nat → Nat → Int64} (o1 : Option Value)  : zeRun 104 27 [some (.ref 16), o1] [] (zk B im lm) = zeBh 104 32 [some (.ref 16), o1] [] (zeRun 17 0 [some (.ref 16), some (.int 1)] [] (zk B im lm)) := ze_call (ok := true) rfl 3 rfl rfl rfl
theorem d_104_32 {B : zeB} {im : Nat → Nat → Int32} {lm : Nat → Nat → Int64} (o0 : Option Value) (o1 : Option Value) (s0 : Int32)  : zeRun 104 32 [o0, o1] [.int s0] (zk B im lm) = some (some (.int s0), (zk B im lm)) := ze_ret (ok := true) rfl 1 rfl rfl
theorem d_104_75 {B : zeB} {im : Nat → Nat → Int32} {lm : Nat → Nat → Int64} (o0 : Option Value) (l1 : Int32) (s1 : Int32)  : zeRun 104 75 [o0, some (.int l1)] [.int s1, .ref 17] (zk B im lm) = some (some (.int l1), (zk B (zeU2 im 17 0 s1) lm)) := ze_ret (ok := true) rfl 3 rfl rfl
def J_104_75  (l1 : Int32) (s1 : Int32) (im : zI) (lm : zJ) : zR :=
    some (l1, (zeU2 im 17 0 s1), lm)
theorem J_104_75_ok {B : zeB} (l1 : Int32) (s1 : Int32) (o0 : Option Value) (im : zI) (lm : zJ) : zL B 1 (J_104_75  l1 s1 im lm) (zeRun 104 75 [o0, some (.int l1)] [.int s1, .ref 17] (zk B im lm)) := by
  unfold J_104_75
  exact zL_ret (d_104_75 _ _ _)
def m_104  (im : zI) (lm : zJ) : zR :=
    if (im 17 1) = 0 then
      zBd (m_17 8 im lm) fun v1 im1 lm1 =>
      some (v1, im1, lm1)
    else
      if (im 17 0) = 0 then
        zBd (m_103  im lm) fun _ im2 lm2 =>
        zBd (m_83  im2 lm2) fun v3 im3 lm3 =>
        J_104_75   v3 (if v3 = 0 then 6 else 4) im3 lm3
      else
        zBd (m_17 1 im lm) fun v4 im4 lm4 =>
        some (v4, im4, lm4)
theorem m_104_ok {B : zeB}  (im : zI) (lm : zJ) : zL B 1 (m_104  im lm) (zeRun 104 0 [some (.ref 16), none] [] (zk B im lm)) := by
  unfold m_104
  refine zL_if (d_104_0 _) (fun h => ?_) (fun h => ?_)
  · skip
    refine zL_bd (d_104_10 _) (m_17_ok _ _ _) fun v1 im1 lm1 => ?_
    exact zL_ret (d_104_16 _ _ _)
  · skip
    refine zL_if (d_104_17 _) (fun h => ?_) (fun h => ?_)
    · skip
      refine zL_bdv (d_104_33 _) (m_103_ok _ _) fun _ im2 lm2 => ?_
      refine zL_bd (d_104_50 _) (m_83_ok _ _) fun v3 im3 lm3 => ?_
      refine zL_ifm (d_104_60 _ _) (fun h => ?_) (fun h => ?_)
      · repeat rw [if_pos h]
        refine zL_eq (d_104_69 _ _) ?_
        exact J_104_75_ok   _ _ _ _ _
      · repeat rw [if_neg h]
        refine zL_eq (d_104_74 _ _) ?_
        exact J_104_75_ok   _ _ _ _ _
    · skip
      refine zL_bd (d_104_27 _) (m_17_ok _ _ _) fun v4 im4 lm4 => ?_
      exact zL_ret (d_104_32 _ _ _)
/-! X7_beginFinal -/
theorem d_105_0 {B : zeB} {im : Nat → Nat → Int32} {lm : Nat → Nat → Int64}   : zeRun 105 0 [some (.ref 16)] [] (zk B im lm) = zeBh 105 11 [some (.ref 16)] [] (zeRun 15 0 [some (.ref 42), some (.ref 17)] [] (zk B im lm)) := ze_call (ok := true) rfl 5 rfl rfl rfl
theorem d_105_11 {B : zeB} {im : Nat → Nat → Int32} {lm : Nat → Nat → Int64}   : zeRun 105 11 [some (.ref 16)] [] (zk B im lm) = zeBh 105 16 [some (.ref 16)] [.ref 16] (zeRun 104 0 [some (.ref 16), none] [] (zk B im lm)) := ze_call (ok := true) rfl 3 rfl rfl rfl
theorem d_105_16 {B : zeB} {im : Nat → Nat → Int32} {lm : Nat → Nat → Int64} (o0 : Option Value) (s1 : Int32)  : zeRun 105 16 [o0] [.int s1, .ref 16] (zk B im lm) = zeBh 105 19 [o0] [] (zeRun 21 0 [some (.ref 16), some (.int s1)] [] (zk B im lm)) := ze_call (ok := true) rfl 1 rfl rfl rfl
theorem d_105_19 {B : zeB} {im : Nat → Nat → Int32} {lm : Nat → Nat → Int64} (o0 : Option Value) (s0 : Int32)  : zeRun 105 19 [o0] [.int s0] (zk B im lm) = some (some (.int s0), (zk B im lm)) := ze_ret (ok := true) rfl 1 rfl rfl
def m_105  (im : zI) (lm : zJ) : zR :=
    zBd (m_15  im lm) fun _ im1 lm1 =>
    zBd (m_104  im1 lm1) fun v2 im2 lm2 =>
    zBd (m_21 v2 im2 lm2) fun v3 im3 lm3 =>
    some (v3, im3, lm3)
theorem m_105_ok {B : zeB}  (im : zI) (lm : zJ) : zL B 1 (m_105  im lm) (zeRun 105 0 [some (.ref 16)] [] (zk B im lm)) := by
  unfold m_105
  refine zL_bdv d_105_0 (m_15_ok _ _) fun _ im1 lm1 => ?_
  refine zL_bd d_105_11 (m_104_ok _ _) fun v2 im2 lm2 => ?_
  refine zL_bd (d_105_16 _ _) (m_21_ok _ _ _) fun v3 im3 lm3 => ?_
  exact zL_ret (d_105_19 _ _)
/-! X8_beginFinal -/
theorem d_106_0 {B : zeB} {im : Nat → Nat → Int32} {lm : Nat → Nat → Int64} (o1 : Option Value) (o2 : Option Value)  : zeRun 106 0 [some (.ref 170), o1, o2] [] (zk B im lm) = if (im 171 1) = 0 then zeRun 106 9 [some (.ref 170), o1, o2] [] (zk B im lm) else zeRun 106 14 [some (.ref 170), o1, o2] [] (zk B im lm) := ze_if (ok := true) rfl 5 rfl rfl
theorem d_106_9 {B : zeB} {im : Nat → Nat → Int32} {lm : Nat → Nat → Int64} (o1 : Option Value) (o2 : Option Value)  : zeRun 106 9 [some (.ref 170), o1, o2] [] (zk B im lm) = zeRun 106 28 [some (.ref 170), o1, o2] [.int 8] (zk B im lm) := ze_go (ok := true) rfl 2 rfl rfl
theorem d_106_14 {B : zeB} {im : Nat → Nat → Int32} {lm : Nat → Nat → Int64} (o1 : Option Value) (o2 : Option Value)  : zeRun 106 14 [some (.ref 170), o1, o2] [] (zk B im lm) = if (im 171 0) = 0 then zeRun 106 27 [some (.ref 170), o1, o2] [] (zk B im lm) else zeRun 106 23 [some (.ref 170), o1, o2] [] (zk B im lm) := ze_if (ok := true) rfl 5 rfl rfl
theorem d_106_27 {B : zeB} {im : Nat → Nat → Int32} {lm : Nat → Nat → Int64} (o1 : Option Value) (o2 : Option Value)  : zeRun 106 27 [some (.ref 170), o1, o2] [] (zk B im lm) = zeRun 106 28 [some (.ref 170), o1, o2] [.int 0] (zk B im lm) := ze_go (ok := true) rfl 1 rfl rfl
theorem d_106_23 {B : zeB} {im : Nat → Nat → Int32} {lm : Nat → Nat → Int64} (o1 : Option Value) (o2 : Option Value)  : zeRun 106 23 [some (.ref 170), o1, o2] [] (zk B im lm) = zeRun 106 28 [some (.ref 170), o1, o2] [.int 1] (zk B im lm) := ze_go (ok := true) rfl 2 rfl rfl
theorem d_106_28 {B : zeB} {im : Nat → Nat → Int32} {lm : Nat → Nat → Int64} (o1 : Option Value) (o2 : Option Value) (s0 : Int32)  : zeRun 106 28 [some (.ref 170), o1, o2] [.int s0] (zk B im lm) = if s0 ≤ 0 then zeRun 106 39 [some (.ref 170), some (.int s0), o2] [] (zk B im lm) else zeRun 106 33 [some (.ref 170), some (.int s0), o2] [] (zk B im lm) := ze_if (ok := true) rfl 3 rfl rfl
theorem d_106_39 {B : zeB} {im : Nat → Nat → Int32} {lm : Nat → Nat → Int64} (o1 : Option Value) (o2 : Option Value)  : zeRun 106 39 [some (.ref 170), o1, o2] [] (zk B im lm) = zeBh 106 43 [some (.ref 170), o1, o2] [] (zeRun 25 0 [some (.ref 170), none] [] (zk B im lm)) := ze_call (ok := true) rfl 2 rfl rfl rfl
theorem d_106_43 {B : zeB} {im : Nat → Nat → Int32} {lm : Nat → Nat → Int64} (o1 : Option Value) (o2 : Option Value)  : zeRun 106 43 [some (.ref 170), o1, o2] [] (zk B im lm) = zeBh 106 47 [some (.ref 170), o1, o2] [] (zeRun 47 0 [some (.ref 170), none, none, none, none, none, none] [] (zk B im lm)) := ze_call (ok := true) rfl 2 rfl rfl rfl
theorem d_106_47 {B : zeB} {im : Nat → Nat → Int32} {lm : Nat → Nat → Int64} (o1 : Option Value) (o2 : Option Value)  : zeRun 106 47 [some (.ref 170), o1, o2] [] (zk B im lm) = zeRun 106 65 [some (.ref 170), o1, some (.int 0)] [] (zk B (zeU2 (zeU2 im 171 13 0) 171 14 0) lm) := ze_go (ok := true) rfl 12 rfl rfl
theorem d_106_33 {B : zeB} {im : Nat → Nat → Int32} {lm : Nat → Nat → Int64} (l1 : Int32) (o2 : Option Value)  : zeRun 106 33 [some (.ref 170), some (.int l1), o2] [] (zk B im lm) = zeBh 106 38 [some (.ref 170), some (.int l1), o2] [] (zeRun 24 0 [some (.ref 170), some (.int l1)] [] (zk B im lm)) := ze_call (ok := true) rfl 3 rfl rfl rfl
theorem d_106_38 {B : zeB} {im : Nat → Nat → Int32} {lm : Nat → Nat → Int64} (o0 : Option Value) (o1 : Option Value) (o2 : Option Value) (s0 : Int32)  : zeRun 106 38 [o0, o1, o2] [.int s0] (zk B im lm) = some (some (.int s0), (zk B im lm)) := ze_ret (ok := true) rfl 1 rfl rfl
theorem d_106_65 {B : zeB} {im : Nat → Nat → Int32} {lm : Nat → Nat → Int64} (o1 : Option Value) (l2 : Int32)  : zeRun 106 65 [some (.ref 170), o1, some (.int l2)] [] (zk B im lm) = if (im 171 1) ≤ l2 then zeRun 106 122 [some (.ref 170), o1, some (.int l2)] [] (zk B im lm) else zeRun 106 75 [some (.ref 170), o1, some (.int l2)] [] (zk B im lm) := ze_if (ok := true) rfl 6 rfl rfl
theorem d_106_122 {B : zeB} {im : Nat → Nat → Int32} {lm : Nat → Nat → Int64} (o1 : Option Value) (o2 : Option Value)  : zeRun 106 122 [some (.ref 170), o1, o2] [] (zk B im lm) = if (im 171 13) = 0 then zeRun 106 137 [some (.ref 170), o1, o2] [.int 0, .ref 171] (zk B im lm) else zeRun 106 142 [some (.ref 170), o1, o2] [.int 0, .ref 171] (zk B im lm) := ze_if (ok := true) rfl 8 rfl rfl
theorem d_106_137 {B : zeB} {im : Nat → Nat → Int32} {lm : Nat → Nat → Int64} (o1 : Option Value) (o2 : Option Value) (s1 : Int32)  : zeRun 106 137 [some (.ref 170), o1, o2] [.int s1, .ref 171] (zk B im lm) = zeRun 106 143 [some (.ref 170), o1, o2] [.int 6, .int s1, .ref 171] (zk B im lm) := ze_go (ok := true) rfl 2 rfl rfl
theorem d_106_142 {B : zeB} {im : Nat → Nat → Int32} {lm : Nat → Nat → Int64} (o1 : Option Value) (o2 : Option Value) (s1 : Int32)  : zeRun 106 142 [some (.ref 170), o1, o2] [.int s1, .ref 171] (zk B im lm) = zeRun 106 143 [some (.ref 170), o1, o2] [.int 4, .int s1, .ref 171] (zk B im lm) := ze_go (ok := true) rfl 1 rfl rfl
theorem d_106_75 {B : zeB} {im : Nat → Nat → Int32} {lm : Nat → Nat → Int64} (o1 : Option Value) (l2 : Int32) (c0 : zeInb l2 6 = true) : zeRun 106 75 [some (.ref 170), o1, some (.int l2)] [] (zk B im lm) = if (im 175 (Int32.toNatClampNeg l2)) ≤ 0 then zeRun 106 98 [some (.ref 170), o1, some (.int l2)] [.int (im 171 13), .int 13, .ref 171] (zk B im lm) else zeRun 106 92 [some (.ref 170), o1, some (.int l2)] [.int (im 171 13), .int 13, .ref 171] (zk B im lm) := ze_if (ok := (zeInb l2 6 && true)) rfl 10 rfl (zeA2 c0 rfl)
theorem d_106_98 {B : zeB} {im : Nat → Nat → Int32} {lm : Nat → Nat → Int64} (o1 : Option Value) (l2 : Int32) (s1 : Int32) (s2 : Int32)  : zeRun 106 98 [some (.ref 170), o1, some (.int l2)] [.int s2, .int s1, .ref 171] (zk B im lm) = zeRun 106 99 [some (.ref 170), o1, some (.int l2)] [.int 0, .int s2, .int s1, .ref 171] (zk B im lm) := ze_go (ok := true) rfl 1 rfl rfl
theorem d_106_92 {B : zeB} {im : Nat → Nat → Int32} {lm : Nat → Nat → Int64} (o1 : Option Value) (l2 : Int32) (s1 : Int32) (s2 : Int32)  : zeRun 106 92 [some (.ref 170), o1, some (.int l2)] [.int s2, .int s1, .ref 171] (zk B im lm) = zeRun 106 99 [some (.ref 170), o1, some (.int l2)] [.int (1 <<< (l2 &&& 31)), .int s2, .int s1, .ref 171] (zk B im lm) := ze_go (ok := true) rfl 4 rfl rfl
theorem d_106_99 {B : zeB} {im : Nat → Nat → Int32} {lm : Nat → Nat → Int64} (o1 : Option Value) (l2 : Int32) (s1 : Int32) (s2 : Int32) (s3 : Int32) (c0 : zeInb s1 360 = true) (c1 : zeInb l2 6 = true) (c2 : zeInb (16 + l2) 360 = true) : zeRun 106 99 [some (.ref 170), o1, some (.int l2)] [.int s3, .int s2, .int s1, .ref 171] (zk B im lm) = zeRun 106 65 [some (.ref 170), o1, some (.int (l2 + 1))] [] (zk B (zeU2 (zeU2 im 171 (Int32.toNatClampNeg s1) (s2 ||| s3)) 171 (Int32.toNatClampNeg (16 + l2)) (im 175 (Int32.toNatClampNeg l2))) lm) := ze_go (ok := (zeInb (16 + l2) 360 && (zeInb l2 6 && (zeInb s1 360 && true)))) rfl 14 rfl (zeA2 c2 (zeA2 c1 (zeA2 c0 rfl)))
theorem d_106_143 {B : zeB} {im : Nat → Nat → Int32} {lm : Nat → Nat → Int64} (o1 : Option Value) (o2 : Option Value) (s1 : Int32) (s2 : Int32) (c0 : zeInb s1 360 = true) : zeRun 106 143 [some (.ref 170), o1, o2] [.int s2, .int s1, .ref 171] (zk B im lm) = zeBh 106 154 [some (.ref 170), o1, o2] [] (zeRun 33 0 [some (.int ((zeU2 im 171 (Int32.toNatClampNeg s1) s2) 171 13)), none, none] [] (zk B (zeU2 im 171 (Int32.toNatClampNeg s1) s2) lm)) := ze_call (ok := (zeInb s1 360 && true)) rfl 6 rfl rfl (zeA2 c0 rfl)
theorem d_106_154 {B : zeB} {im : Nat → Nat → Int32} {lm : Nat → Nat → Int64} (o0 : Option Value) (o1 : Option Value) (o2 : Option Value) (s0 : Int32)  : zeRun 106 154 [o0, o1, o2] [.int s0] (zk B im lm) = some (some (.int s0), (zk B im lm)) := ze_ret (ok := true) rfl 1 rfl rfl
def J_106_143  (s1 : Int32) (s2 : Int32) (im : zI) (lm : zJ) : zR :=
    zCk (zeInb s1 360) <|
    zBd (m_33 ((zeU2 im 171 (Int32.toNatClampNeg s1) s2) 171 13) (zeU2 im 171 (Int32.toNatClampNeg s1) s2) lm) fun v1 im1 lm1 =>
    some (v1, im1, lm1)
theorem J_106_143_ok {B : zeB} (s1 : Int32) (s2 : Int32) (o1 : Option Value) (o2 : Option Value) (im : zI) (lm : zJ) : zL B 1 (J_106_143  s1 s2 im lm) (zeRun 106 143 [some (.ref 170), o1, o2] [.int s2, .int s1, .ref 171] (zk B im lm)) := by
  unfold J_106_143
  refine zL_ck fun c1 => ?_
  refine zL_bd (d_106_143 _ _ _ _ c1) (m_33_ok _ _ _) fun v1 im1 lm1 => ?_
  exact zL_ret (d_106_154 _ _ _ _)
def J_106_99 (K65 : Int32 → zI → zJ → zR) (l2 : Int32) (s1 : Int32) (s2 : Int32) (s3 : Int32) (im : zI) (lm : zJ) : zR :=
    zCk (zeInb s1 360) <|
    zCk (zeInb l2 6) <|
    zCk (zeInb (16 + l2) 360) <|
    K65 (l2 + 1) (zeU2 (zeU2 im 171 (Int32.toNatClampNeg s1) (s2 ||| s3)) 171 (Int32.toNatClampNeg (16 + l2)) (im 175 (Int32.toNatClampNeg l2))) lm
theorem J_106_99_ok {B : zeB} (K65 : Int32 → zI → zJ → zR) (hK65 : ∀ (l2 : Int32) (o1 : Option Value) (im : zI) (lm : zJ), zL B 1 (K65 l2 im lm) (zeRun 106 65 [some (.ref 170), o1, some (.int l2)] [] (zk B im lm))) (l2 : Int32) (s1 : Int32) (s2 : Int32) (s3 : Int32) (o1 : Option Value) (im : zI) (lm : zJ) : zL B 1 (J_106_99 K65 l2 s1 s2 s3 im lm) (zeRun 106 99 [some (.ref 170), o1, some (.int l2)] [.int s3, .int s2, .int s1, .ref 171] (zk B im lm)) := by
  unfold J_106_99
  refine zL_ck fun c1 => ?_
  refine zL_ck fun c2 => ?_
  refine zL_ck fun c3 => ?_
  refine zL_eq (d_106_99 _ _ _ _ _ c1 c2 c3) ?_
  exact hK65 _ _ _ _
def F_106_65  : Nat → Int32 → zI → zJ → zR
  | 0, _, _, _ => none
  | n + 1, l2, im, lm =>
    if (im 171 1) ≤ l2 then
      J_106_143   0 (if (im 171 13) = 0 then 6 else 4) im lm
    else
      zCk (zeInb l2 6) <|
      J_106_99 (F_106_65  n)  l2 13 (im 171 13) (if (im 175 (Int32.toNatClampNeg l2)) ≤ 0 then 0 else (1 <<< (l2 &&& 31))) im lm
theorem F_106_65_ok {B : zeB} : ∀ (n : Nat) (l2 : Int32) (o1 : Option Value) (im : zI) (lm : zJ), zL B 1 (F_106_65  n l2 im lm) (zeRun 106 65 [some (.ref 170), o1, some (.int l2)] [] (zk B im lm)) := by
  intro n
  induction n with
  | zero => intros; exact zL_none
  | succ n ih =>
    intro l2 o1 im lm
    unfold F_106_65
    refine zL_if (d_106_65 _ _) (fun h => ?_) (fun h => ?_)
    · skip
      refine zL_ifm (d_106_122 _ _) (fun h => ?_) (fun h => ?_)
      · repeat rw [if_pos h]
        refine zL_eq (d_106_137 _ _ _) ?_
        exact J_106_143_ok   _ _ _ _ _ _
      · repeat rw [if_neg h]
        refine zL_eq (d_106_142 _ _ _) ?_
        exact J_106_143_ok   _ _ _ _ _ _
    · skip
      refine zL_ck fun c1 => ?_
      refine zL_ifm (d_106_75 _ _ c1) (fun h => ?_) (fun h => ?_)
      · repeat rw [if_pos h]
        refine zL_eq (d_106_98 _ _ _ _) ?_
        exact J_106_99_ok _ ih  _ _ _ _ _ _ _
      · repeat rw [if_neg h]
        refine zL_eq (d_106_92 _ _ _ _) ?_
        exact J_106_99_ok _ ih  _ _ _ _ _ _ _
def J_106_28  (s0 : Int32) (im : zI) (lm : zJ) : zR :=
    if s0 ≤ 0 then
      zBd (m_25  im lm) fun _ im1 lm1 =>
      zBd (m_47  im1 lm1) fun _ im2 lm2 =>
      F_106_65  2000 0 (zeU2 (zeU2 im2 171 13 0) 171 14 0) lm2
    else
      zBd (m_24 s0 im lm) fun v3 im3 lm3 =>
      some (v3, im3, lm3)
theorem J_106_28_ok {B : zeB} (s0 : Int32) (o1 : Option Value) (o2 : Option Value) (im : zI) (lm : zJ) : zL B 1 (J_106_28  s0 im lm) (zeRun 106 28 [some (.ref 170), o1, o2] [.int s0] (zk B im lm)) := by
  unfold J_106_28
  refine zL_if (d_106_28 _ _ _) (fun h => ?_) (fun h => ?_)
  · skip
    refine zL_bdv (d_106_39 _ _) (m_25_ok _ _) fun _ im1 lm1 => ?_
    refine zL_bdv (d_106_43 _ _) (m_47_ok _ _) fun _ im2 lm2 => ?_
    refine zL_eq (d_106_47 _ _) ?_
    exact F_106_65_ok  _ _ _ _ _
  · skip
    refine zL_bd (d_106_33 _ _) (m_24_ok _ _ _) fun v3 im3 lm3 => ?_
    exact zL_ret (d_106_38 _ _ _ _)
def m_106  (im : zI) (lm : zJ) : zR :=
    J_106_28   (if (im 171 1) = 0 then 8 else if (im 171 0) = 0 then 0 else 1) im lm
theorem m_106_ok {B : zeB}  (im : zI) (lm : zJ) : zL B 1 (m_106  im lm) (zeRun 106 0 [some (.ref 170), none, none] [] (zk B im lm)) := by
  unfold m_106
  refine zL_ifm (d_106_0 _ _) (fun h => ?_) (fun h => ?_)
  · repeat rw [if_pos h]
    refine zL_eq (d_106_9 _ _) ?_
    exact J_106_28_ok   _ _ _ _ _
  · repeat rw [if_neg h]
    refine zL_ifm (d_106_14 _ _) (fun h => ?_) (fun h => ?_)
    · repeat rw [if_pos h]
      refine zL_eq (d_106_27 _ _) ?_
      exact J_106_28_ok   _ _ _ _ _
    · repeat rw [if_neg h]
      refine zL_eq (d_106_23 _ _) ?_
      exact J_106_28_ok   _ _ _ _ _
/-! X0_isWagerWanting -/
theorem d_107_0 {B : zeB} {im : Nat → Nat → Int32} {lm : Nat → Nat → Int64} (l1 : Int32) (c0 : zeInb l1 6 = true) : zeRun 107 0 [some (.ref 23), some (.int l1)] [] (zk B im lm) = if (im 24 (Int32.toNatClampNeg l1)) ≤ 0 then zeRun 107 24 [some (.ref 23), some (.int l1)] [] (zk B im lm) else zeRun 107 9 [some (.ref 23), some (.int l1)] [] (zk B im lm) := ze_if (ok := (zeInb l1 6 && true)) rfl 5 rfl (zeA2 c0 rfl)
theorem d_107_24 {B : zeB} {im : Nat → Nat → Int32} {lm : Nat → Nat → Int64} (o0 : Option Value) (o1 : Option Value)  : zeRun 107 24 [o0, o1] [] (zk B im lm) = some (some (.int 0), (zk B im lm)) := ze_ret (ok := true) rfl 2 rfl rfl
theorem d_107_9 {B : zeB} {im : Nat → Nat → Int32} {lm : Nat → Nat → Int64} (l1 : Int32) (c0 : zeInb l1 6 = true) : zeRun 107 9 [some (.ref 23), some (.int l1)] [] (zk B im lm) = if (im 25 (Int32.toNatClampNeg l1)) = (-10000005) then zeRun 107 20 [some (.ref 23), some (.int l1)] [] (zk B im lm) else zeRun 107 24 [some (.ref 23), some (.int l1)] [] (zk B im lm) := ze_if (ok := (zeInb l1 6 && true)) rfl 6 rfl (zeA2 c0 rfl)
theorem d_107_20 {B : zeB} {im : Nat → Nat → Int32} {lm : Nat → Nat → Int64} (o0 : Option Value) (o1 : Option Value)  : zeRun 107 20 [o0, o1] [] (zk B im lm) = some (some (.int 1), (zk B im lm)) := ze_ret (ok := true) rfl 3 rfl rfl
def m_107 (l1 : Int32) (im : zI) (lm : zJ) : zR :=
    zCk (zeInb l1 6) <|
    some (if (im 24 (Int32.toNatClampNeg l1)) ≤ 0 then 0 else if (im 25 (Int32.toNatClampNeg l1)) = (-10000005) then 1 else 0, im, lm)
theorem m_107_ok {B : zeB} (l1 : Int32) (im : zI) (lm : zJ) : zL B 1 (m_107 l1 im lm) (zeRun 107 0 [some (.ref 23), some (.int l1)] [] (zk B im lm)) := by
  unfold m_107
  refine zL_ck fun c1 => ?_
  refine zL_ifm (d_107_0 _ c1) (fun h => ?_) (fun h => ?_)
  · repeat rw [if_pos h]
    exact zL_ret (d_107_24 _ _)
  · repeat rw [if_neg h]
    refine zL_ifm (d_107_9 _ c1) (fun h => ?_) (fun h => ?_)
    · repeat rw [if_pos h]
      exact zL_ret (d_107_20 _ _)
    · repeat rw [if_neg h]
      exact zL_ret (d_107_24 _ _)
/-! X0_wagersWanting -/
theorem d_108_0 {B : zeB} {im : Nat → Nat → Int32} {lm : Nat → Nat → Int64} (o1 : Option Value) (o2 : Option Value)  : zeRun 108 0 [some (.ref 23), o1, o2] [] (zk B im lm) = zeRun 108 4 [some (.ref 23), some (.int 0), some (.int 0)] [] (zk B im lm) := ze_go (ok := true) rfl 4 rfl rfl
theorem d_108_4 {B : zeB} {im : Nat → Nat → Int32} {lm : Nat → Nat → Int64} (l1 : Int32) (l2 : Int32)  : zeRun 108 4 [some (.ref 23), some (.int l1), some (.int l2)] [] (zk B im lm) = if 6 ≤ l2 then zeRun 108 27 [some (.ref 23), some (.int l1), some (.int l2)] [] (zk B im lm) else zeRun 108 10 [some (.ref 23), some (.int l1), some (.int l2)] [] (zk B im lm) := ze_if (ok := true) rfl 3 rfl rfl
theorem d_108_27 {B : zeB} {im : Nat → Nat → Int32} {lm : Nat → Nat → Int64} (o0 : Option Value) (l1 : Int32) (o2 : Option Value)  : zeRun 108 27 [o0, some (.int l1), o2] [] (zk B im lm) = some (some (.int l1), (zk B im lm)) := ze_ret (ok := true) rfl 2 rfl rfl
theorem d_108_10 {B : zeB} {im : Nat → Nat → Int32} {lm : Nat → Nat → Int64} (l1 : Int32) (l2 : Int32)  : zeRun 108 10 [some (.ref 23), some (.int l1), some (.int l2)] [] (zk B im lm) = zeBh 108 15 [some (.ref 23), some (.int l1), some (.int l2)] [] (zeRun 107 0 [some (.ref 23), some (.int l2)] [] (zk B im lm)) := ze_call (ok := true) rfl 3 rfl rfl rfl
theorem d_108_15 {B : zeB} {im : Nat → Nat → Int32} {lm : Nat → Nat → Int64} (l1 : Int32) (l2 : Int32) (s0 : Int32)  : zeRun 108 15 [some (.ref 23), some (.int l1), some (.int l2)] [.int s0] (zk B im lm) = if s0 = 0 then zeRun 108 21 [some (.ref 23), some (.int l1), some (.int l2)] [] (zk B im lm) else zeRun 108 18 [some (.ref 23), some (.int l1), some (.int l2)] [] (zk B im lm) := ze_if (ok := true) rfl 1 rfl rfl
theorem d_108_21 {B : zeB} {im : Nat → Nat → Int32} {lm : Nat → Nat → Int64} (l1 : Int32) (l2 : Int32)  : zeRun 108 21 [some (.ref 23), some (.int l1), some (.int l2)] [] (zk B im lm) = zeRun 108 4 [some (.ref 23), some (.int l1), some (.int (l2 + 1))] [] (zk B im lm) := ze_go (ok := true) rfl 2 rfl rfl
theorem d_108_18 {B : zeB} {im : Nat → Nat → Int32} {lm : Nat → Nat → Int64} (l1 : Int32) (l2 : Int32)  : zeRun 108 18 [some (.ref 23), some (.int l1), some (.int l2)] [] (zk B im lm) = zeRun 108 4 [some (.ref 23), some (.int (l1 + 1)), some (.int (l2 + 1))] [] (zk B im lm) := ze_go (ok := true) rfl 3 rfl rfl
def F_108_4  : Nat → Int32 → Int32 → zI → zJ → zR
  | 0, _, _, _, _ => none
  | n + 1, l1, l2, im, lm =>
    if 6 ≤ l2 then
      some (l1, im, lm)
    else
      zBd (m_107 l2 im lm) fun v1 im1 lm1 =>
      F_108_4  n (if v1 = 0 then l1 else (l1 + 1)) (l2 + 1) im1 lm1
theorem F_108_4_ok {B : zeB} : ∀ (n : Nat) (l1 : Int32) (l2 : Int32)  (im : zI) (lm : zJ), zL B 1 (F_108_4  n l1 l2 im lm) (zeRun 108 4 [some (.ref 23), some (.int l1), some (.int l2)] [] (zk B im lm)) := by
  intro n
  induction n with
  | zero => intros; exact zL_none
  | succ n ih =>
    intro l1 l2 im lm
    unfold F_108_4
    refine zL_if (d_108_4 _ _) (fun h => ?_) (fun h => ?_)
    · skip
      exact zL_ret (d_108_27 _ _ _)
    · skip
      refine zL_bd (d_108_10 _ _) (m_107_ok _ _ _) fun v1 im1 lm1 => ?_
      refine zL_ifm (d_108_15 _ _ _) (fun h => ?_) (fun h => ?_)
      · repeat rw [if_pos h]
        refine zL_eq (d_108_21 _ _) ?_
        exact ih _ _ _ _
      · repeat rw [if_neg h]
        refine zL_eq (d_108_18 _ _) ?_
        exact ih _ _ _ _
def m_108  (im : zI) (lm : zJ) : zR :=
    F_108_4  2000 0 0 im lm
theorem m_108_ok {B : zeB}  (im : zI) (lm : zJ) : zL B 1 (m_108  im lm) (zeRun 108 0 [some (.ref 23), none, none] [] (zk B im lm)) := by
  unfold m_108
  refine zL_eq (d_108_0 _ _) ?_
  exact F_108_4_ok  _ _ _ _ _
