/-! pure: X7_doCorrect, X7_correct, X4_rememberScores, X4_changedScores, X7_doRejudge, X7_rejudge, X7_doSet, X7_set, X7_playerAtPlace, X7_ordered -/
/-! X7_doCorrect -/
theorem d_115_0 {B : zeB} {im : Nat → Nat → Int32} {lm : Nat → Nat → Int64} (l1 : Int32) (l2 : Int32)  : zeRun 115 0 [some (.ref 16), some (.int l1), some (.int l2)] [] (zk B im lm) = zeBh 115 5 [some (.ref 16), some (.int l1), some (.int l2)] [] (zeRun 38 0 [some (.ref 16), some (.int l1)] [] (zk B im lm)) := ze_call (ok := true) rfl 3 rfl rfl rfl
theorem d_115_5 {B : zeB} {im : Nat → Nat → Int32} {lm : Nat → Nat → Int64} (l1 : Int32) (l2 : Int32) (s0 : Int32)  : zeRun 115 5 [some (.ref 16), some (.int l1), some (.int l2)] [.int s0] (zk B im lm) = if s0 = 0 then zeRun 115 8 [some (.ref 16), some (.int l1), some (.int l2)] [] (zk B im lm) else zeRun 115 11 [some (.ref 16), some (.int l1), some (.int l2)] [] (zk B im lm) := ze_if (ok := true) rfl 1 rfl rfl
theorem d_115_8 {B : zeB} {im : Nat → Nat → Int32} {lm : Nat → Nat → Int64} (o0 : Option Value) (o1 : Option Value) (o2 : Option Value)  : zeRun 115 8 [o0, o1, o2] [] (zk B im lm) = some (some (.int (-10000001)), (zk B im lm)) := ze_ret (ok := true) rfl 2 rfl rfl
theorem d_115_11 {B : zeB} {im : Nat → Nat → Int32} {lm : Nat → Nat → Int64} (l1 : Int32) (l2 : Int32)  : zeRun 115 11 [some (.ref 16), some (.int l1), some (.int l2)] [] (zk B im lm) = if l2 < (-10000) then zeRun 115 25 [some (.ref 16), some (.int l1), some (.int l2)] [] (zk B im lm) else zeRun 115 18 [some (.ref 16), some (.int l1), some (.int l2)] [] (zk B im lm) := ze_if (ok := true) rfl 3 rfl rfl
theorem d_115_25 {B : zeB} {im : Nat → Nat → Int32} {lm : Nat → Nat → Int64} (o0 : Option Value) (o1 : Option Value) (o2 : Option Value)  : zeRun 115 25 [o0, o1, o2] [] (zk B im lm) = some (some (.int (-10000002)), (zk B im lm)) := ze_ret (ok := true) rfl 2 rfl rfl
theorem d_115_18 {B : zeB} {im : Nat → Nat → Int32} {lm : Nat → Nat → Int64} (l1 : Int32) (l2 : Int32)  : zeRun 115 18 [some (.ref 16), some (.int l1), some (.int l2)] [] (zk B im lm) = if l2 ≤ 10000 then zeRun 115 28 [some (.ref 16), some (.int l1), some (.int l2)] [] (zk B im lm) else zeRun 115 25 [some (.ref 16), some (.int l1), some (.int l2)] [] (zk B im lm) := ze_if (ok := true) rfl 3 rfl rfl
theorem d_115_28 {B : zeB} {im : Nat → Nat → Int32} {lm : Nat → Nat → Int64} (l1 : Int32) (l2 : Int32)  : zeRun 115 28 [some (.ref 16), some (.int l1), some (.int l2)] [] (zk B im lm) = zeBh 115 38 [some (.ref 16), some (.int l1), some (.int l2)] [] (zeRun 70 0 [some (.ref 26)] [] (zk B im lm)) := ze_call (ok := true) rfl 4 rfl rfl rfl
theorem d_115_38 {B : zeB} {im : Nat → Nat → Int32} {lm : Nat → Nat → Int64} (l1 : Int32) (l2 : Int32) (s0 : Int32)  : zeRun 115 38 [some (.ref 16), some (.int l1), some (.int l2)] [.int s0] (zk B im lm) = if s0 = 0 then zeRun 115 48 [some (.ref 16), some (.int l1), some (.int l2)] [] (zk B im lm) else zeRun 115 41 [some (.ref 16), some (.int l1), some (.int l2)] [] (zk B im lm) := ze_if (ok := true) rfl 1 rfl rfl
theorem d_115_48 {B : zeB} {im : Nat → Nat → Int32} {lm : Nat → Nat → Int64} (l1 : Int32) (l2 : Int32)  : zeRun 115 48 [some (.ref 16), some (.int l1), some (.int l2)] [] (zk B im lm) = zeBh 115 65 [some (.ref 16), some (.int l1), some (.int l2)] [] (zeRun 71 0 [some (.ref 26), some (.int l1), some (.int 4), some (.int (-10000005)), some (.int l2), some (.int (-10000005))] [] (zk B im lm)) := ze_call (ok := true) rfl 9 rfl rfl rfl
theorem d_115_65 {B : zeB} {im : Nat → Nat → Int32} {lm : Nat → Nat → Int64} (l1 : Int32) (o2 : Option Value)  : zeRun 115 65 [some (.ref 16), some (.int l1), o2] [] (zk B im lm) = zeBh 115 70 [some (.ref 16), some (.int l1), o2] [] (zeRun 77 0 [some (.ref 16), some (.int l1)] [] (zk B im lm)) := ze_call (ok := true) rfl 3 rfl rfl rfl
theorem d_115_70 {B : zeB} {im : Nat → Nat → Int32} {lm : Nat → Nat → Int64} (o0 : Option Value) (o1 : Option Value) (o2 : Option Value) (s0 : Int32)  : zeRun 115 70 [o0, o1, o2] [.int s0] (zk B im lm) = some (some (.int s0), (zk B im lm)) := ze_ret (ok := true) rfl 1 rfl rfl
theorem d_115_41 {B : zeB} {im : Nat → Nat → Int32} {lm : Nat → Nat → Int64} (o1 : Option Value) (o2 : Option Value)  : zeRun 115 41 [some (.ref 16), o1, o2] [] (zk B im lm) = zeBh 115 47 [some (.ref 16), o1, o2] [] (zeRun 17 0 [some (.ref 16), some (.int 7)] [] (zk B im lm)) := ze_call (ok := true) rfl 3 rfl rfl rfl
theorem d_115_47 {B : zeB} {im : Nat → Nat → Int32} {lm : Nat → Nat → Int64} (o0 : Option Value) (o1 : Option Value) (o2 : Option Value) (s0 : Int32)  : zeRun 115 47 [o0, o1, o2] [.int s0] (zk B im lm) = some (some (.int s0), (zk B im lm)) := ze_ret (ok := true) rfl 1 rfl rfl
def m_115 (l1 : Int32) (l2 : Int32) (im : zI) (lm : zJ) : zR :=
    if (if l1 < 0 then 0 else if (im 17 1) ≤ l1 then 0 else 1 : Int32) = 0 then
      some ((-10000001), im, lm)
    else
      if l2 < (-10000) then
        some ((-10000002), im, lm)
      else
        if l2 ≤ 10000 then
          if (if (im 26 0) < 60 then 0 else 1 : Int32) = 0 then
            zBd (m_71 l1 4 (-10000005) l2 (-10000005) im lm) fun _ im3 lm3 =>
            zBd (m_77 l1 im3 lm3) fun v4 im4 lm4 =>
            some (v4, im4, lm4)
          else
            zBd (m_17 7 im lm) fun v5 im5 lm5 =>
            some (v5, im5, lm5)
        else
          some ((-10000002), im, lm)
theorem m_115_ok {B : zeB} (l1 : Int32) (l2 : Int32) (im : zI) (lm : zJ) : zL B 1 (m_115 l1 l2 im lm) (zeRun 115 0 [some (.ref 16), some (.int l1), some (.int l2)] [] (zk B im lm)) := by
  unfold m_115
  refine zL_bdp (e := (if l1 < 0 then 0 else if (im 17 1) ≤ l1 then 0 else 1 : Int32)) (d_115_0 _ _) (m_38_ok _ _ _) ?_
  refine zL_if (d_115_5 _ _ _) (fun h => ?_) (fun h => ?_)
  · skip
    exact zL_ret (d_115_8 _ _ _)
  · skip
    refine zL_if (d_115_11 _ _) (fun h => ?_) (fun h => ?_)
    · skip
      exact zL_ret (d_115_25 _ _ _)
    · skip
      refine zL_if (d_115_18 _ _) (fun h => ?_) (fun h => ?_)
      · skip
        refine zL_bdp (e := (if (im 26 0) < 60 then 0 else 1 : Int32)) (d_115_28 _ _) (m_70_ok _ _) ?_
        refine zL_if (d_115_38 _ _ _) (fun h => ?_) (fun h => ?_)
        · skip
          refine zL_bdv (d_115_48 _ _) (m_71_ok _ _ _ _ _ _ _) fun _ im3 lm3 => ?_
          refine zL_bd (d_115_65 _ _) (m_77_ok _ _ _) fun v4 im4 lm4 => ?_
          exact zL_ret (d_115_70 _ _ _ _)
        · skip
          refine zL_bd (d_115_41 _ _) (m_17_ok _ _ _) fun v5 im5 lm5 => ?_
          exact zL_ret (d_115_47 _ _ _ _)
      · skip
        exact zL_ret (d_115_25 _ _ _)
/-! X7_correct -/
theorem d_116_0 {B : zeB} {im : Nat → Nat → Int32} {lm : Nat → Nat → Int64} (l1 : Int32) (l2 : Int32)  : zeRun 116 0 [some (.ref 16), some (.int l1), some (.int l2)] [] (zk B im lm) = zeBh 116 11 [some (.ref 16), some (.int l1), some (.int l2)] [] (zeRun 15 0 [some (.ref 42), some (.ref 17)] [] (zk B im lm)) := ze_call (ok := true) rfl 5 rfl rfl rfl
theorem d_116_11 {B : zeB} {im : Nat → Nat → Int32} {lm : Nat → Nat → Int64} (l1 : Int32) (l2 : Int32)  : zeRun 116 11 [some (.ref 16), some (.int l1), some (.int l2)] [] (zk B im lm) = zeBh 116 18 [some (.ref 16), some (.int l1), some (.int l2)] [.ref 16] (zeRun 115 0 [some (.ref 16), some (.int l1), some (.int l2)] [] (zk B im lm)) := ze_call (ok := true) rfl 5 rfl rfl rfl
theorem d_116_18 {B : zeB} {im : Nat → Nat → Int32} {lm : Nat → Nat → Int64} (o0 : Option Value) (o1 : Option Value) (o2 : Option Value) (s1 : Int32)  : zeRun 116 18 [o0, o1, o2] [.int s1, .ref 16] (zk B im lm) = zeBh 116 21 [o0, o1, o2] [] (zeRun 21 0 [some (.ref 16), some (.int s1)] [] (zk B im lm)) := ze_call (ok := true) rfl 1 rfl rfl rfl
theorem d_116_21 {B : zeB} {im : Nat → Nat → Int32} {lm : Nat → Nat → Int64} (o0 : Option Value) (o1 : Option Value) (o2 : Option Value) (s0 : Int32)  : zeRun 116 21 [o0, o1, o2] [.int s0] (zk B im lm) = some (some (.int s0), (zk B im lm)) := ze_ret (ok := true) rfl 1 rfl rfl
def m_116 (l1 : Int32) (l2 : Int32) (im : zI) (lm : zJ) : zR :=
    zBd (m_15  im lm) fun _ im1 lm1 =>
    zBd (m_115 l1 l2 im1 lm1) fun v2 im2 lm2 =>
    zBd (m_21 v2 im2 lm2) fun v3 im3 lm3 =>
    some (v3, im3, lm3)
theorem m_116_ok {B : zeB} (l1 : Int32) (l2 : Int32) (im : zI) (lm : zJ) : zL B 1 (m_116 l1 l2 im lm) (zeRun 116 0 [some (.ref 16), some (.int l1), some (.int l2)] [] (zk B im lm)) := by
  unfold m_116
  refine zL_bdv (d_116_0 _ _) (m_15_ok _ _) fun _ im1 lm1 => ?_
  refine zL_bd (d_116_11 _ _) (m_115_ok _ _ _ _) fun v2 im2 lm2 => ?_
  refine zL_bd (d_116_18 _ _ _ _) (m_21_ok _ _ _) fun v3 im3 lm3 => ?_
  exact zL_ret (d_116_21 _ _ _ _)
/-! X4_rememberScores -/
theorem d_119_0 {B : zeB} {im : Nat → Nat → Int32} {lm : Nat → Nat → Int64}   : zeRun 119 0 [some (.ref 32)] [] (zk B im lm) = some (none, (zk B (zeCpy im 33 0 41 0 6) lm)) := ze_ret (ok := true) rfl 9 rfl rfl
def m_119  (im : zI) (lm : zJ) : zR :=
    some (0, (zeCpy im 33 0 41 0 6), lm)
theorem m_119_ok {B : zeB}  (im : zI) (lm : zJ) : zL B 0 (m_119  im lm) (zeRun 119 0 [some (.ref 32)] [] (zk B im lm)) := by
  unfold m_119
  exact zL_retv d_119_0
/-! X4_changedScores -/
theorem d_120_0 {B : zeB} {im : Nat → Nat → Int32} {lm : Nat → Nat → Int64} (o1 : Option Value) (o2 : Option Value)  : zeRun 120 0 [some (.ref 32), o1, o2] [] (zk B im lm) = zeRun 120 4 [some (.ref 32), some (.int 0), some (.int 0)] [] (zk B im lm) := ze_go (ok := true) rfl 4 rfl rfl
theorem d_120_4 {B : zeB} {im : Nat → Nat → Int32} {lm : Nat → Nat → Int64} (l1 : Int32) (l2 : Int32)  : zeRun 120 4 [some (.ref 32), some (.int l1), some (.int l2)] [] (zk B im lm) = if 6 ≤ l2 then zeRun 120 34 [some (.ref 32), some (.int l1), some (.int l2)] [] (zk B im lm) else zeRun 120 10 [some (.ref 32), some (.int l1), some (.int l2)] [] (zk B im lm) := ze_if (ok := true) rfl 3 rfl rfl
theorem d_120_34 {B : zeB} {im : Nat → Nat → Int32} {lm : Nat → Nat → Int64} (o0 : Option Value) (l1 : Int32) (o2 : Option Value)  : zeRun 120 34 [o0, some (.int l1), o2] [] (zk B im lm) = some (some (.int l1), (zk B im lm)) := ze_ret (ok := true) rfl 2 rfl rfl
theorem d_120_10 {B : zeB} {im : Nat → Nat → Int32} {lm : Nat → Nat → Int64} (l1 : Int32) (l2 : Int32) (c0 : zeInb l2 6 = true) (c1 : zeInb l2 6 = true) : zeRun 120 10 [some (.ref 32), some (.int l1), some (.int l2)] [] (zk B im lm) = if (im 33 (Int32.toNatClampNeg l2)) = (im 41 (Int32.toNatClampNeg l2)) then zeRun 120 28 [some (.ref 32), some (.int l1), some (.int l2)] [] (zk B im lm) else zeRun 120 25 [some (.ref 32), some (.int l1), some (.int l2)] [] (zk B im lm) := ze_if (ok := (zeInb l2 6 && (zeInb l2 6 && true))) rfl 9 rfl (zeA2 c1 (zeA2 c0 rfl))
theorem d_120_28 {B : zeB} {im : Nat → Nat → Int32} {lm : Nat → Nat → Int64} (l1 : Int32) (l2 : Int32)  : zeRun 120 28 [some (.ref 32), some (.int l1), some (.int l2)] [] (zk B im lm) = zeRun 120 4 [some (.ref 32), some (.int l1), some (.int (l2 + 1))] [] (zk B im lm) := ze_go (ok := true) rfl 2 rfl rfl
theorem d_120_25 {B : zeB} {im : Nat → Nat → Int32} {lm : Nat → Nat → Int64} (l1 : Int32) (l2 : Int32)  : zeRun 120 25 [some (.ref 32), some (.int l1), some (.int l2)] [] (zk B im lm) = zeRun 120 4 [some (.ref 32), some (.int (l1 + 1)), some (.int (l2 + 1))] [] (zk B im lm) := ze_go (ok := true) rfl 3 rfl rfl
def F_120_4  : Nat → Int32 → Int32 → zI → zJ → zR
  | 0, _, _, _, _ => none
  | n + 1, l1, l2, im, lm =>
    if 6 ≤ l2 then
      some (l1, im, lm)
    else
      zCk (zeInb l2 6) <|
      F_120_4  n (if (im 33 (Int32.toNatClampNeg l2)) = (im 41 (Int32.toNatClampNeg l2)) then l1 else (l1 + 1)) (l2 + 1) im lm
theorem F_120_4_ok {B : zeB} : ∀ (n : Nat) (l1 : Int32) (l2 : Int32)  (im : zI) (lm : zJ), zL B 1 (F_120_4  n l1 l2 im lm) (zeRun 120 4 [some (.ref 32), some (.int l1), some (.int l2)] [] (zk B im lm)) := by
  intro n
  induction n with
  | zero => intros; exact zL_none
  | succ n ih =>
    intro l1 l2 im lm
    unfold F_120_4
    refine zL_if (d_120_4 _ _) (fun h => ?_) (fun h => ?_)
    · skip
      exact zL_ret (d_120_34 _ _ _)
    · skip
      refine zL_ck fun c1 => ?_
      refine zL_ifm (d_120_10 _ _ c1 c1) (fun h => ?_) (fun h => ?_)
      · repeat rw [if_pos h]
        refine zL_eq (d_120_28 _ _) ?_
        exact ih _ _ _ _
      · repeat rw [if_neg h]
        refine zL_eq (d_120_25 _ _) ?_
        exact ih _ _ _ _
def m_120  (im : zI) (lm : zJ) : zR :=
    F_120_4  2000 0 0 im lm
theorem m_120_ok {B : zeB}  (im : zI) (lm : zJ) : zL B 1 (m_120  im lm) (zeRun 120 0 [some (.ref 32), none, none] [] (zk B im lm)) := by
  unfold m_120
  refine zL_eq (d_120_0 _ _) ?_
  exact F_120_4_ok  _ _ _ _ _
/-! X7_doRejudge -/
theorem d_121_0 {B : zeB} {im : Nat → Nat → Int32} {lm : Nat → Nat → Int64} (l1 : Int32)  : zeRun 121 0 [some (.ref 16), some (.int l1)] [] (zk B im lm) = zeBh 121 5 [some (.ref 16), some (.int l1)] [] (zeRun 118 0 [some (.ref 16), some (.int l1)] [] (zk B im lm)) := ze_call (ok := true) rfl 3 rfl rfl rfl
theorem d_121_5 {B : zeB} {im : Nat → Nat → Int32} {lm : Nat → Nat → Int64} (l1 : Int32) (s0 : Int32)  : zeRun 121 5 [some (.ref 16), some (.int l1)] [.int s0] (zk B im lm) = if s0 = 0 then zeRun 121 8 [some (.ref 16), some (.int l1)] [] (zk B im lm) else zeRun 121 11 [some (.ref 16), some (.int l1)] [] (zk B im lm) := ze_if (ok := true) rfl 1 rfl rfl
theorem d_121_8 {B : zeB} {im : Nat → Nat → Int32} {lm : Nat → Nat → Int64} (o0 : Option Value) (o1 : Option Value)  : zeRun 121 8 [o0, o1] [] (zk B im lm) = some (some (.int (-10000001)), (zk B im lm)) := ze_ret (ok := true) rfl 2 rfl rfl
theorem d_121_11 {B : zeB} {im : Nat → Nat → Int32} {lm : Nat → Nat → Int64} (l1 : Int32) (c0 : zeInb l1 60 = true) : zeRun 121 11 [some (.ref 16), some (.int l1)] [] (zk B im lm) = if (im 28 (Int32.toNatClampNeg l1)) = 4 then zeRun 121 27 [some (.ref 16), some (.int l1)] [] (zk B im lm) else zeRun 121 30 [some (.ref 16), some (.int l1)] [] (zk B im lm) := ze_if (ok := (zeInb l1 60 && true)) rfl 8 rfl (zeA2 c0 rfl)
theorem d_121_27 {B : zeB} {im : Nat → Nat → Int32} {lm : Nat → Nat → Int64} (o0 : Option Value) (o1 : Option Value)  : zeRun 121 27 [o0, o1] [] (zk B im lm) = some (some (.int (-10000002)), (zk B im lm)) := ze_ret (ok := true) rfl 2 rfl rfl
theorem d_121_30 {B : zeB} {im : Nat → Nat → Int32} {lm : Nat → Nat → Int64} (l1 : Int32)  : zeRun 121 30 [some (.ref 16), some (.int l1)] [] (zk B im lm) = zeBh 121 37 [some (.ref 16), some (.int l1)] [] (zeRun 119 0 [some (.ref 32)] [] (zk B im lm)) := ze_call (ok := true) rfl 3 rfl rfl rfl
theorem d_121_37 {B : zeB} {im : Nat → Nat → Int32} {lm : Nat → Nat → Int64} (l1 : Int32) (c0 : zeInb l1 60 = true) (c1 : zeInb l1 60 = true) : zeRun 121 37 [some (.ref 16), some (.int l1)] [] (zk B im lm) = zeBh 121 77 [some (.ref 16), some (.int l1)] [] (zeRun 76 0 [some (.ref 32), some (.ref 26), none] [] (zk B (zeU2 im 31 (Int32.toNatClampNeg l1) (1 - (im 31 (Int32.toNatClampNeg l1)))) lm)) := ze_call (ok := (zeInb l1 60 && (zeInb l1 60 && true))) rfl 20 rfl rfl (zeA2 c1 (zeA2 c0 rfl))
theorem d_121_77 {B : zeB} {im : Nat → Nat → Int32} {lm : Nat → Nat → Int64} (o1 : Option Value)  : zeRun 121 77 [some (.ref 16), o1] [] (zk B im lm) = zeBh 121 84 [some (.ref 16), o1] [] (zeRun 120 0 [some (.ref 32), none, none] [] (zk B im lm)) := ze_call (ok := true) rfl 3 rfl rfl rfl
theorem d_121_84 {B : zeB} {im : Nat → Nat → Int32} {lm : Nat → Nat → Int64} (o0 : Option Value) (o1 : Option Value) (s0 : Int32)  : zeRun 121 84 [o0, o1] [.int s0] (zk B im lm) = some (some (.int s0), (zk B im lm)) := ze_ret (ok := true) rfl 1 rfl rfl
def m_121 (l1 : Int32) (im : zI) (lm : zJ) : zR :=
    if (if l1 < 0 then 0 else if (im 26 0) ≤ l1 then 0 else 1 : Int32) = 0 then
      some ((-10000001), im, lm)
    else
      zCk (zeInb l1 60) <|
      if (im 28 (Int32.toNatClampNeg l1)) = 4 then
        some ((-10000002), im, lm)
      else
        zBd (m_119  im lm) fun _ im2 lm2 =>
        zBd (m_76  (zeU2 im2 31 (Int32.toNatClampNeg l1) (1 - (im2 31 (Int32.toNatClampNeg l1)))) lm2) fun _ im3 lm3 =>
        zBd (m_120  im3 lm3) fun v4 im4 lm4 =>
        some (v4, im4, lm4)
theorem m_121_ok {B : zeB} (l1 : Int32) (im : zI) (lm : zJ) : zL B 1 (m_121 l1 im lm) (zeRun 121 0 [some (.ref 16), some (.int l1)] [] (zk B im lm)) := by
  unfold m_121
  refine zL_bdp (e := (if l1 < 0 then 0 else if (im 26 0) ≤ l1 then 0 else 1 : Int32)) (d_121_0 _) (m_118_ok _ _ _) ?_
  refine zL_if (d_121_5 _ _) (fun h => ?_) (fun h => ?_)
  · skip
    exact zL_ret (d_121_8 _ _)
  · skip
    refine zL_ck fun c1 => ?_
    refine zL_if (d_121_11 _ c1) (fun h => ?_) (fun h => ?_)
    · skip
      exact zL_ret (d_121_27 _ _)
    · skip
      refine zL_bdv (d_121_30 _) (m_119_ok _ _) fun _ im2 lm2 => ?_
      refine zL_bdv (d_121_37 _ c1 c1) (m_76_ok _ _) fun _ im3 lm3 => ?_
      refine zL_bd (d_121_77 _) (m_120_ok _ _) fun v4 im4 lm4 => ?_
      exact zL_ret (d_121_84 _ _ _)
/-! X7_rejudge -/
theorem d_122_0 {B : zeB} {im : Nat → Nat → Int32} {lm : Nat → Nat → Int64} (l1 : Int32)  : zeRun 122 0 [some (.ref 16), some (.int l1)] [] (zk B im lm) = zeBh 122 11 [some (.ref 16), some (.int l1)] [] (zeRun 15 0 [some (.ref 42), some (.ref 17)] [] (zk B im lm)) := ze_call (ok := true) rfl 5 rfl rfl rfl
theorem d_122_11 {B : zeB} {im : Nat → Nat → Int32} {lm : Nat → Nat → Int64} (l1 : Int32)  : zeRun 122 11 [some (.ref 16), some (.int l1)] [] (zk B im lm) = zeBh 122 17 [some (.ref 16), some (.int l1)] [.ref 16] (zeRun 121 0 [some (.ref 16), some (.int l1)] [] (zk B im lm)) := ze_call (ok := true) rfl 4 rfl rfl rfl
theorem d_122_17 {B : zeB} {im : Nat → Nat → Int32} {lm : Nat → Nat → Int64} (o0 : Option Value) (o1 : Option Value) (s1 : Int32)  : zeRun 122 17 [o0, o1] [.int s1, .ref 16] (zk B im lm) = zeBh 122 20 [o0, o1] [] (zeRun 21 0 [some (.ref 16), some (.int s1)] [] (zk B im lm)) := ze_call (ok := true) rfl 1 rfl rfl rfl
theorem d_122_20 {B : zeB} {im : Nat → Nat → Int32} {lm : Nat → Nat → Int64} (o0 : Option Value) (o1 : Option Value) (s0 : Int32)  : zeRun 122 20 [o0, o1] [.int s0] (zk B im lm) = some (some (.int s0), (zk B im lm)) := ze_ret (ok := true) rfl 1 rfl rfl
def m_122 (l1 : Int32) (im : zI) (lm : zJ) : zR :=
    zBd (m_15  im lm) fun _ im1 lm1 =>
    zBd (m_121 l1 im1 lm1) fun v2 im2 lm2 =>
    zBd (m_21 v2 im2 lm2) fun v3 im3 lm3 =>
    some (v3, im3, lm3)
theorem m_122_ok {B : zeB} (l1 : Int32) (im : zI) (lm : zJ) : zL B 1 (m_122 l1 im lm) (zeRun 122 0 [some (.ref 16), some (.int l1)] [] (zk B im lm)) := by
  unfold m_122
  refine zL_bdv (d_122_0 _) (m_15_ok _ _) fun _ im1 lm1 => ?_
  refine zL_bd (d_122_11 _) (m_121_ok _ _ _) fun v2 im2 lm2 => ?_
  refine zL_bd (d_122_17 _ _ _) (m_21_ok _ _ _) fun v3 im3 lm3 => ?_
  exact zL_ret (d_122_20 _ _ _)
/-! X7_doSet -/
theorem d_35_0 {B : zeB} {im : Nat → Nat → Int32} {lm : Nat → Nat → Int64} (l1 : Int32) (l2 : Int32) (o3 : Option Value)  : zeRun 35 0 [some (.ref 16), some (.int l1), some (.int l2), o3] [] (zk B im lm) = if l1 < 0 then zeRun 35 12 [some (.ref 16), some (.int l1), some (.int l2), o3] [] (zk B im lm) else zeRun 35 4 [some (.ref 16), some (.int l1), some (.int l2), o3] [] (zk B im lm) := ze_if (ok := true) rfl 2 rfl rfl
theorem d_35_12 {B : zeB} {im : Nat → Nat → Int32} {lm : Nat → Nat → Int64} (o0 : Option Value) (o1 : Option Value) (o2 : Option Value) (o3 : Option Value)  : zeRun 35 12 [o0, o1, o2, o3] [] (zk B im lm) = some (some (.int (-10000001)), (zk B im lm)) := ze_ret (ok := true) rfl 2 rfl rfl
theorem d_35_4 {B : zeB} {im : Nat → Nat → Int32} {lm : Nat → Nat → Int64} (l1 : Int32) (l2 : Int32) (o3 : Option Value)  : zeRun 35 4 [some (.ref 16), some (.int l1), some (.int l2), o3] [] (zk B im lm) = if l1 < 3 then zeRun 35 15 [some (.ref 16), some (.int l1), some (.int l2), o3] [] (zk B im lm) else zeRun 35 12 [some (.ref 16), some (.int l1), some (.int l2), o3] [] (zk B im lm) := ze_if (ok := true) rfl 4 rfl rfl
theorem d_35_15 {B : zeB} {im : Nat → Nat → Int32} {lm : Nat → Nat → Int64} (l1 : Int32) (l2 : Int32) (o3 : Option Value)  : zeRun 35 15 [some (.ref 16), some (.int l1), some (.int l2), o3] [] (zk B im lm) = if l2 < 0 then zeRun 35 28 [some (.ref 16), some (.int l1), some (.int l2), o3] [] (zk B im lm) else zeRun 35 19 [some (.ref 16), some (.int l1), some (.int l2), o3] [] (zk B im lm) := ze_if (ok := true) rfl 2 rfl rfl
theorem d_35_28 {B : zeB} {im : Nat → Nat → Int32} {lm : Nat → Nat → Int64} (o0 : Option Value) (o1 : Option Value) (o2 : Option Value) (o3 : Option Value)  : zeRun 35 28 [o0, o1, o2, o3] [] (zk B im lm) = some (some (.int (-10000002)), (zk B im lm)) := ze_ret (ok := true) rfl 2 rfl rfl
theorem d_35_19 {B : zeB} {im : Nat → Nat → Int32} {lm : Nat → Nat → Int64} (l1 : Int32) (l2 : Int32) (o3 : Option Value) (c0 : zeInb l1 3 = true) : zeRun 35 19 [some (.ref 16), some (.int l1), some (.int l2), o3] [] (zk B im lm) = if l2 ≤ (im 1 (Int32.toNatClampNeg l1)) then zeRun 35 31 [some (.ref 16), some (.int l1), some (.int l2), o3] [] (zk B im lm) else zeRun 35 28 [some (.ref 16), some (.int l1), some (.int l2), o3] [] (zk B im lm) := ze_if (ok := (zeInb l1 3 && true)) rfl 5 rfl (zeA2 c0 rfl)
theorem d_35_31 {B : zeB} {im : Nat → Nat → Int32} {lm : Nat → Nat → Int64} (l1 : Int32) (l2 : Int32) (o3 : Option Value) (c0 : zeInb l1 3 = true) (c1 : zeInb l1 3 = true) : zeRun 35 31 [some (.ref 16), some (.int l1), some (.int l2), o3] [] (zk B im lm) = some (some (.int (im 18 (Int32.toNatClampNeg l1))), (zk B (zeU2 im 18 (Int32.toNatClampNeg l1) l2) lm)) := ze_ret (ok := (zeInb l1 3 && (zeInb l1 3 && true))) rfl 14 rfl (zeA2 c1 (zeA2 c0 rfl))
def m_35 (l1 : Int32) (l2 : Int32) (im : zI) (lm : zJ) : zR :=
    zCk (if l1 < 0 then true else if l1 < 3 then if l2 < 0 then true else zeInb l1 3 else true) <|
    some (if l1 < 0 then (-10000001) else if l1 < 3 then if l2 < 0 then (-10000002) else if l2 ≤ (im 1 (Int32.toNatClampNeg l1)) then (im 18 (Int32.toNatClampNeg l1)) else (-10000002) else (-10000001), if l1 < 0 then im else if l1 < 3 then if l2 < 0 then im else if l2 ≤ (im 1 (Int32.toNatClampNeg l1)) then (zeU2 im 18 (Int32.toNatClampNeg l1) l2) else im else im, lm)
theorem m_35_ok {B : zeB} (l1 : Int32) (l2 : Int32) (im : zI) (lm : zJ) : zL B 1 (m_35 l1 l2 im lm) (zeRun 35 0 [some (.ref 16), some (.int l1), some (.int l2), none] [] (zk B im lm)) := by
  unfold m_35
  refine zL_ifm (d_35_0 _ _ _) (fun h => ?_) (fun h => ?_)
  · repeat rw [if_pos h]
    refine zL_ckt ?_
    exact zL_ret (d_35_12 _ _ _ _)
  · repeat rw [if_neg h]
    refine zL_ifm (d_35_4 _ _ _) (fun h => ?_) (fun h => ?_)
    · repeat rw [if_pos h]
      refine zL_ifm (d_35_15 _ _ _) (fun h => ?_) (fun h => ?_)
      · repeat rw [if_pos h]
        refine zL_ckt ?_
        exact zL_ret (d_35_28 _ _ _ _)
      · repeat rw [if_neg h]
        refine zL_ck fun c1 => ?_
        refine zL_ifm (d_35_19 _ _ _ c1) (fun h => ?_) (fun h => ?_)
        · repeat rw [if_pos h]
          exact zL_ret (d_35_31 _ _ _ c1 c1)
        · repeat rw [if_neg h]
          exact zL_ret (d_35_28 _ _ _ _)
    · repeat rw [if_neg h]
      refine zL_ckt ?_
      exact zL_ret (d_35_12 _ _ _ _)
/-! X7_set -/
theorem d_36_0 {B : zeB} {im : Nat → Nat → Int32} {lm : Nat → Nat → Int64} (l1 : Int32) (l2 : Int32)  : zeRun 36 0 [some (.ref 16), some (.int l1), some (.int l2)] [] (zk B im lm) = zeBh 36 11 [some (.ref 16), some (.int l1), some (.int l2)] [] (zeRun 15 0 [some (.ref 42), some (.ref 17)] [] (zk B im lm)) := ze_call (ok := true) rfl 5 rfl rfl rfl
theorem d_36_11 {B : zeB} {im : Nat → Nat → Int32} {lm : Nat → Nat → Int64} (l1 : Int32) (l2 : Int32)  : zeRun 36 11 [some (.ref 16), some (.int l1), some (.int l2)] [] (zk B im lm) = zeBh 36 18 [some (.ref 16), some (.int l1), some (.int l2)] [.ref 16] (zeRun 35 0 [some (.ref 16), some (.int l1), some (.int l2), none] [] (zk B im lm)) := ze_call (ok := true) rfl 5 rfl rfl rfl
theorem d_36_18 {B : zeB} {im : Nat → Nat → Int32} {lm : Nat → Nat → Int64} (o0 : Option Value) (o1 : Option Value) (o2 : Option Value) (s1 : Int32)  : zeRun 36 18 [o0, o1, o2] [.int s1, .ref 16] (zk B im lm) = zeBh 36 21 [o0, o1, o2] [] (zeRun 21 0 [some (.ref 16), some (.int s1)] [] (zk B im lm)) := ze_call (ok := true) rfl 1 rfl rfl rfl
theorem d_36_21 {B : zeB} {im : Nat → Nat → Int32} {lm : Nat → Nat → Int64} (o0 : Option Value) (o1 : Option Value) (o2 : Option Value) (s0 : Int32)  : zeRun 36 21 [o0, o1, o2] [.int s0] (zk B im lm) = some (some (.int s0), (zk B im lm)) := ze_ret (ok := true) rfl 1 rfl rfl
def m_36 (l1 : Int32) (l2 : Int32) (im : zI) (lm : zJ) : zR :=
    zBd (m_15  im lm) fun _ im1 lm1 =>
    zBd (m_35 l1 l2 im1 lm1) fun v2 im2 lm2 =>
    zBd (m_21 v2 im2 lm2) fun v3 im3 lm3 =>
    some (v3, im3, lm3)
theorem m_36_ok {B : zeB} (l1 : Int32) (l2 : Int32) (im : zI) (lm : zJ) : zL B 1 (m_36 l1 l2 im lm) (zeRun 36 0 [some (.ref 16), some (.int l1), some (.int l2)] [] (zk B im lm)) := by
  unfold m_36
  refine zL_bdv (d_36_0 _ _) (m_15_ok _ _) fun _ im1 lm1 => ?_
  refine zL_bd (d_36_11 _ _) (m_35_ok _ _ _ _) fun v2 im2 lm2 => ?_
  refine zL_bd (d_36_18 _ _ _ _) (m_21_ok _ _ _) fun v3 im3 lm3 => ?_
  exact zL_ret (d_36_21 _ _ _ _)
/-! X7_playerAtPlace -/
theorem d_162_0 {B : zeB} {im : Nat → Nat → Int32} {lm : Nat → Nat → Int64} (l1 : Int32) (o2 : Option Value)  : zeRun 162 0 [some (.ref 16), some (.int l1), o2] [] (zk B im lm) = zeRun 162 2 [some (.ref 16), some (.int l1), some (.int 0)] [] (zk B im lm) := ze_go (ok := true) rfl 2 rfl rfl
theorem d_162_2 {B : zeB} {im : Nat → Nat → Int32} {lm : Nat → Nat → Int64} (l1 : Int32) (l2 : Int32)  : zeRun 162 2 [some (.ref 16), some (.int l1), some (.int l2)] [] (zk B im lm) = if (im 17 1) ≤ l2 then zeRun 162 30 [some (.ref 16), some (.int l1), some (.int l2)] [] (zk B im lm) else zeRun 162 13 [some (.ref 16), some (.int l1), some (.int l2)] [] (zk B im lm) := ze_if (ok := true) rfl 5 rfl rfl
theorem d_162_30 {B : zeB} {im : Nat → Nat → Int32} {lm : Nat → Nat → Int64} (o0 : Option Value) (o1 : Option Value) (o2 : Option Value)  : zeRun 162 30 [o0, o1, o2] [] (zk B im lm) = some (some (.int (-10000005)), (zk B im lm)) := ze_ret (ok := true) rfl 2 rfl rfl
theorem d_162_13 {B : zeB} {im : Nat → Nat → Int32} {lm : Nat → Nat → Int64} (l1 : Int32) (l2 : Int32)  : zeRun 162 13 [some (.ref 16), some (.int l1), some (.int l2)] [] (zk B im lm) = zeBh 162 18 [some (.ref 16), some (.int l1), some (.int l2)] [] (zeRun 155 0 [some (.ref 16), some (.int l2), none, none] [] (zk B im lm)) := ze_call (ok := true) rfl 3 rfl rfl rfl
theorem d_162_18 {B : zeB} {im : Nat → Nat → Int32} {lm : Nat → Nat → Int64} (l1 : Int32) (l2 : Int32) (s0 : Int32)  : zeRun 162 18 [some (.ref 16), some (.int l1), some (.int l2)] [.int s0] (zk B im lm) = if s0 = l1 then zeRun 162 22 [some (.ref 16), some (.int l1), some (.int l2)] [] (zk B im lm) else zeRun 162 24 [some (.ref 16), some (.int l1), some (.int l2)] [] (zk B im lm) := ze_if (ok := true) rfl 2 rfl rfl
theorem d_162_22 {B : zeB} {im : Nat → Nat → Int32} {lm : Nat → Nat → Int64} (o0 : Option Value) (o1 : Option Value) (l2 : Int32)  : zeRun 162 22 [o0, o1, some (.int l2)] [] (zk B im lm) = some (some (.int l2), (zk B im lm)) := ze_ret (ok := true) rfl 2 rfl rfl
theorem d_162_24 {B : zeB} {im : Nat → Nat → Int32} {lm : Nat → Nat → Int64} (l1 : Int32) (l2 : Int32)  : zeRun 162 24 [some (.ref 16), some (.int l1), some (.int l2)] [] (zk B im lm) = zeRun 162 2 [some (.ref 16), some (.int l1), some (.int (l2 + 1))] [] (zk B im lm) := ze_go (ok := true) rfl 2 rfl rfl
def F_162_2  : Nat → Int32 → Int32 → zI → zJ → zR
  | 0, _, _, _, _ => none
  | n + 1, l1, l2, im, lm =>
    if (im 17 1) ≤ l2 then
      some ((-10000005), im, lm)
    else
      zBd (m_155 l2 im lm) fun v1 im1 lm1 =>
      if v1 = l1 then
        some (l2, im1, lm1)
      else
        F_162_2  n l1 (l2 + 1) im1 lm1
theorem F_162_2_ok {B : zeB} : ∀ (n : Nat) (l1 : Int32) (l2 : Int32)  (im : zI) (lm : zJ), zL B 1 (F_162_2  n l1 l2 im lm) (zeRun 162 2 [some (.ref 16), some (.int l1), some (.int l2)] [] (zk B im lm)) := by
  intro n
  induction n with
  | zero => intros; exact zL_none
  | succ n ih =>
    intro l1 l2 im lm
    unfold F_162_2
    refine zL_if (d_162_2 _ _) (fun h => ?_) (fun h => ?_)
    · skip
      exact zL_ret (d_162_30 _ _ _)
    · skip
      refine zL_bd (d_162_13 _ _) (m_155_ok _ _ _) fun v1 im1 lm1 => ?_
      refine zL_if (d_162_18 _ _ _) (fun h => ?_) (fun h => ?_)
      · skip
        exact zL_ret (d_162_22 _ _ _)
      · skip
        refine zL_eq (d_162_24 _ _) ?_
        exact ih _ _ _ _
def m_162 (l1 : Int32) (im : zI) (lm : zJ) : zR :=
    F_162_2  2000 l1 0 im lm
theorem m_162_ok {B : zeB} (l1 : Int32) (im : zI) (lm : zJ) : zL B 1 (m_162 l1 im lm) (zeRun 162 0 [some (.ref 16), some (.int l1), none] [] (zk B im lm)) := by
  unfold m_162
  refine zL_eq (d_162_0 _ _) ?_
  exact F_162_2_ok  _ _ _ _ _
/-! X7_ordered -/
theorem d_163_0 {B : zeB} {im : Nat → Nat → Int32} {lm : Nat → Nat → Int64} (l1 : Int32)  : zeRun 163 0 [some (.ref 16), some (.int l1)] [] (zk B im lm) = if 0 ≤ l1 then zeRun 163 9 [some (.ref 16), some (.int l1)] [] (zk B im lm) else zeRun 163 4 [some (.ref 16), some (.int l1)] [] (zk B im lm) := ze_if (ok := true) rfl 2 rfl rfl
theorem d_163_9 {B : zeB} {im : Nat → Nat → Int32} {lm : Nat → Nat → Int64} (l1 : Int32)  : zeRun 163 9 [some (.ref 16), some (.int l1)] [] (zk B im lm) = zeBh 163 14 [some (.ref 16), some (.int l1)] [] (zeRun 162 0 [some (.ref 16), some (.int l1), none] [] (zk B im lm)) := ze_call (ok := true) rfl 3 rfl rfl rfl
theorem d_163_14 {B : zeB} {im : Nat → Nat → Int32} {lm : Nat → Nat → Int64} (o0 : Option Value) (o1 : Option Value) (s0 : Int32)  : zeRun 163 14 [o0, o1] [.int s0] (zk B im lm) = some (some (.int s0), (zk B im lm)) := ze_ret (ok := true) rfl 1 rfl rfl
theorem d_163_4 {B : zeB} {im : Nat → Nat → Int32} {lm : Nat → Nat → Int64} (o0 : Option Value) (o1 : Option Value)  : zeRun 163 4 [o0, o1] [] (zk B im lm) = some (some (.int (-10000002)), (zk B im lm)) := ze_ret (ok := true) rfl 3 rfl rfl
def m_163 (l1 : Int32) (im : zI) (lm : zJ) : zR :=
    if 0 ≤ l1 then
      zBd (m_162 l1 im lm) fun v1 im1 lm1 =>
      some (v1, im1, lm1)
    else
      some ((-10000002), im, lm)
theorem m_163_ok {B : zeB} (l1 : Int32) (im : zI) (lm : zJ) : zL B 1 (m_163 l1 im lm) (zeRun 163 0 [some (.ref 16), some (.int l1)] [] (zk B im lm)) := by
  unfold m_163
  refine zL_if (d_163_0 _) (fun h => ?_) (fun h => ?_)
  · skip
    refine zL_bd (d_163_9 _) (m_162_ok _ _ _) fun v1 im1 lm1 => ?_
    exact zL_ret (d_163_14 _ _ _)
  · skip
    exact zL_ret (d_163_4 _ _)
