/-! pure: X8_setWagerClue, X7_doSet, X7_set, X8_set, X7_isPlayer, X7_controller, X3_begin, X7_valueOf, X7_doPick, X7_pick, X8_noPlayer, X8_at, X8_isStealVoid -/
/-! X8_setWagerClue -/
theorem d_34_0 {B : zeB} {im : Nat → Nat → Int32} {lm : Nat → Nat → Int64} (l1 : Int32) (l2 : Int32)  : zeRun 34 0 [some (.ref 170), some (.int l1), some (.int l2)] [] (zk B im lm) = zeBh 34 7 [some (.ref 170), some (.int l1), some (.int l2)] [] (zeRun 32 0 [some (.int l1), some (.int 0), some (.int 24)] [] (zk B im lm)) := ze_call (ok := true) rfl 4 rfl rfl rfl
theorem d_34_7 {B : zeB} {im : Nat → Nat → Int32} {lm : Nat → Nat → Int64} (l1 : Int32) (l2 : Int32) (s0 : Int32)  : zeRun 34 7 [some (.ref 170), some (.int l1), some (.int l2)] [.int s0] (zk B im lm) = if s0 = 0 then zeRun 34 10 [some (.ref 170), some (.int l1), some (.int l2)] [] (zk B im lm) else zeRun 34 13 [some (.ref 170), some (.int l1), some (.int l2)] [] (zk B im lm) := ze_if (ok := true) rfl 1 rfl rfl
theorem d_34_10 {B : zeB} {im : Nat → Nat → Int32} {lm : Nat → Nat → Int64} (o0 : Option Value) (o1 : Option Value) (o2 : Option Value)  : zeRun 34 10 [o0, o1, o2] [] (zk B im lm) = some (some (.int (-10000001)), (zk B im lm)) := ze_ret (ok := true) rfl 2 rfl rfl
theorem d_34_13 {B : zeB} {im : Nat → Nat → Int32} {lm : Nat → Nat → Int64} (l1 : Int32) (l2 : Int32)  : zeRun 34 13 [some (.ref 170), some (.int l1), some (.int l2)] [] (zk B im lm) = zeBh 34 17 [some (.ref 170), some (.int l1), some (.int l2)] [] (zeRun 23 0 [some (.ref 170)] [] (zk B im lm)) := ze_call (ok := true) rfl 2 rfl rfl rfl
theorem d_34_17 {B : zeB} {im : Nat → Nat → Int32} {lm : Nat → Nat → Int64} (l1 : Int32) (l2 : Int32) (s0 : Int32)  : zeRun 34 17 [some (.ref 170), some (.int l1), some (.int l2)] [.int s0] (zk B im lm) = if s0 = 0 then zeRun 34 26 [some (.ref 170), some (.int l1), some (.int l2)] [] (zk B im lm) else zeRun 34 20 [some (.ref 170), some (.int l1), some (.int l2)] [] (zk B im lm) := ze_if (ok := true) rfl 1 rfl rfl
theorem d_34_26 {B : zeB} {im : Nat → Nat → Int32} {lm : Nat → Nat → Int64} (l1 : Int32) (l2 : Int32)  : zeRun 34 26 [some (.ref 170), some (.int l1), some (.int l2)] [] (zk B im lm) = if (((im 171 11) >>> (l1 &&& 31)) &&& 1) = 1 then zeRun 34 41 [some (.ref 170), some (.int l1), some (.int l2)] [] (zk B im lm) else zeRun 34 45 [some (.ref 170), some (.int l1), some (.int l2)] [] (zk B im lm) := ze_if (ok := true) rfl 10 rfl rfl
theorem d_34_41 {B : zeB} {im : Nat → Nat → Int32} {lm : Nat → Nat → Int64} (l1 : Int32) (l2 : Int32)  : zeRun 34 41 [some (.ref 170), some (.int l1), some (.int l2)] [] (zk B im lm) = zeRun 34 46 [some (.ref 170), some (.int l1), some (.int l2)] [.int 1] (zk B im lm) := ze_go (ok := true) rfl 2 rfl rfl
theorem d_34_45 {B : zeB} {im : Nat → Nat → Int32} {lm : Nat → Nat → Int64} (l1 : Int32) (l2 : Int32)  : zeRun 34 45 [some (.ref 170), some (.int l1), some (.int l2)] [] (zk B im lm) = zeRun 34 46 [some (.ref 170), some (.int l1), some (.int l2)] [.int 0] (zk B im lm) := ze_go (ok := true) rfl 1 rfl rfl
theorem d_34_20 {B : zeB} {im : Nat → Nat → Int32} {lm : Nat → Nat → Int64} (o1 : Option Value) (o2 : Option Value)  : zeRun 34 20 [some (.ref 170), o1, o2] [] (zk B im lm) = zeBh 34 25 [some (.ref 170), o1, o2] [] (zeRun 24 0 [some (.ref 170), some (.int 1)] [] (zk B im lm)) := ze_call (ok := true) rfl 3 rfl rfl rfl
theorem d_34_25 {B : zeB} {im : Nat → Nat → Int32} {lm : Nat → Nat → Int64} (o0 : Option Value) (o1 : Option Value) (o2 : Option Value) (s0 : Int32)  : zeRun 34 25 [o0, o1, o2] [.int s0] (zk B im lm) = some (some (.int s0), (zk B im lm)) := ze_ret (ok := true) rfl 1 rfl rfl
theorem d_34_46 {B : zeB} {im : Nat → Nat → Int32} {lm : Nat → Nat → Int64} (l1 : Int32) (l2 : Int32) (s0 : Int32)  : zeRun 34 46 [some (.ref 170), some (.int l1), some (.int l2)] [.int s0] (zk B im lm) = if s0 = l2 then zeRun 34 50 [some (.ref 170), some (.int l1), some (.int l2)] [] (zk B im lm) else zeRun 34 53 [some (.ref 170), some (.int l1), some (.int l2)] [] (zk B im lm) := ze_if (ok := true) rfl 2 rfl rfl
theorem d_34_50 {B : zeB} {im : Nat → Nat → Int32} {lm : Nat → Nat → Int64} (o0 : Option Value) (o1 : Option Value) (o2 : Option Value)  : zeRun 34 50 [o0, o1, o2] [] (zk B im lm) = some (some (.int (-10000005)), (zk B im lm)) := ze_ret (ok := true) rfl 2 rfl rfl
theorem d_34_53 {B : zeB} {im : Nat → Nat → Int32} {lm : Nat → Nat → Int64} (l1 : Int32) (o2 : Option Value)  : zeRun 34 53 [some (.ref 170), some (.int l1), o2] [] (zk B im lm) = zeBh 34 57 [some (.ref 170), some (.int l1), o2] [] (zeRun 25 0 [some (.ref 170), none] [] (zk B im lm)) := ze_call (ok := true) rfl 2 rfl rfl rfl
theorem d_34_57 {B : zeB} {im : Nat → Nat → Int32} {lm : Nat → Nat → Int64} (l1 : Int32) (o2 : Option Value)  : zeRun 34 57 [some (.ref 170), some (.int l1), o2] [] (zk B im lm) = zeBh 34 80 [some (.ref 170), some (.int l1), o2] [] (zeRun 33 0 [some (.int ((im 171 11) ^^^ (1 <<< (l1 &&& 31)))), none, none] [] (zk B (zeU2 im 171 11 ((im 171 11) ^^^ (1 <<< (l1 &&& 31)))) lm)) := ze_call (ok := true) rfl 15 rfl rfl rfl
theorem d_34_80 {B : zeB} {im : Nat → Nat → Int32} {lm : Nat → Nat → Int64} (o0 : Option Value) (o1 : Option Value) (o2 : Option Value) (s0 : Int32)  : zeRun 34 80 [o0, o1, o2] [.int s0] (zk B im lm) = some (some (.int s0), (zk B im lm)) := ze_ret (ok := true) rfl 1 rfl rfl
def J_34_46  (l1 : Int32) (l2 : Int32) (s0 : Int32) (im : zI) (lm : zJ) : zR :=
    if s0 = l2 then
      some ((-10000005), im, lm)
    else
      zBd (m_25  im lm) fun _ im1 lm1 =>
      zBd (m_33 ((im1 171 11) ^^^ (1 <<< (l1 &&& 31))) (zeU2 im1 171 11 ((im1 171 11) ^^^ (1 <<< (l1 &&& 31)))) lm1) fun v2 im2 lm2 =>
      some (v2, im2, lm2)
theorem J_34_46_ok {B : zeB} (l1 : Int32) (l2 : Int32) (s0 : Int32)  (im : zI) (lm : zJ) : zL B 1 (J_34_46  l1 l2 s0 im lm) (zeRun 34 46 [some (.ref 170), some (.int l1), some (.int l2)] [.int s0] (zk B im lm)) := by
  unfold J_34_46
  refine zL_if (d_34_46 _ _ _) (fun h => ?_) (fun h => ?_)
  · skip
    exact zL_ret (d_34_50 _ _ _)
  · skip
    refine zL_bdv (d_34_53 _ _) (m_25_ok _ _) fun _ im1 lm1 => ?_
    refine zL_bd (d_34_57 _ _) (m_33_ok _ _ _) fun v2 im2 lm2 => ?_
    exact zL_ret (d_34_80 _ _ _ _)
def m_34 (l1 : Int32) (l2 : Int32) (im : zI) (lm : zJ) : zR :=
    if (if l1 < 0 then 0 else if 24 < l1 then 0 else 1 : Int32) = 0 then
      some ((-10000001), im, lm)
    else
      if (if (im 171 10) = 0 then if (im 171 0) = 0 then 0 else 1 else 1 : Int32) = 0 then
        J_34_46   l1 l2 (if (((im 171 11) >>> (l1 &&& 31)) &&& 1) = 1 then 1 else 0) im lm
      else
        zBd (m_24 1 im lm) fun v3 im3 lm3 =>
        some (v3, im3, lm3)
theorem m_34_ok {B : zeB} (l1 : Int32) (l2 : Int32) (im : zI) (lm : zJ) : zL B 1 (m_34 l1 l2 im lm) (zeRun 34 0 [some (.ref 170), some (.int l1), some (.int l2)] [] (zk B im lm)) := by
  unfold m_34
  refine zL_bdp (e := (if l1 < 0 then 0 else if 24 < l1 then 0 else 1 : Int32)) (d_34_0 _ _) (m_32_ok _ _ _ _ _) ?_
  refine zL_if (d_34_7 _ _ _) (fun h => ?_) (fun h => ?_)
  · skip
    exact zL_ret (d_34_10 _ _ _)
  · skip
    refine zL_bdp (e := (if (im 171 10) = 0 then if (im 171 0) = 0 then 0 else 1 else 1 : Int32)) (d_34_13 _ _) (m_23_ok _ _) ?_
    refine zL_if (d_34_17 _ _ _) (fun h => ?_) (fun h => ?_)
    · skip
      refine zL_ifm (d_34_26 _ _) (fun h => ?_) (fun h => ?_)
      · repeat rw [if_pos h]
        refine zL_eq (d_34_41 _ _) ?_
        exact J_34_46_ok   _ _ _ _ _
      · repeat rw [if_neg h]
        refine zL_eq (d_34_45 _ _) ?_
        exact J_34_46_ok   _ _ _ _ _
    · skip
      refine zL_bd (d_34_20 _ _) (m_24_ok _ _ _) fun v3 im3 lm3 => ?_
      exact zL_ret (d_34_25 _ _ _ _)
/-! X7_doSet -/
theorem d_35_0 {B : zeB} {im : Nat → Nat → Int32} {lm : Nat → Nat → Int64} (l1 : Int32) (l2 : Int32) (o3 : Option Value)  : zeRun 35 0 [some (.ref 16), some (.int l1), some (.int l2), o3] [] (zk B im lm) = if l1 < 0 then zeRun 35 12 [some (.ref 16), some (.int l1), some (.int l2), o3] [] (zk B im lm) else zeRun 35 4 [some (.ref 16), some (.int l1), some (.int l2), o3] [] (zk B im lm) := ze_if (ok := true) rfl 2 rfl rfl
theorem d_35_12 {B : zeB} {im : Nat → Nat → Int32} {lm : Nat → Nat → Int64} (o0 : Option Value) (o1 : Option Value) (o2 : Option Value) (o3 : Option Value)  : zeRun 35 12 [o0, o1, o2, o3] [] (zk B im lm) = some (some (.int (-10000001)), (zk B im lm)) := ze_ret (ok := true) rfl 2 rfl rfl
theorem d_35_4 {B : zeB} {im : Nat → Nat → Int32} {lm : Nat → Nat → Int64} (l1 : Int32) (l2 : Int32) (o3 : Option Value)  : zeRun 35 4 [some (.ref 16), some (.int l1), some (.int l2), o3] [] (zk B im lm) = if l1 < 3 then zeRun 35 15 [some (.ref 16), some (.int l1), some (.int l2), o3] [] (zk B im lm) else zeRun 35 12 [some (.ref 16), some (.int l1), some (.int l2), o3] [] (zk B im lm) := ze_if (ok := true) rfl 4 rfl rfl
theorem d_35_15 {B : zeB} {im : Nat → Nat → Int32} {lm : Nat → Nat → Int64} (l1 : Int32) (l2 : Int32) (o3 : Option Value)  : zeRun 35 15 [some (.ref 16), some (.int l1), some (.int l2), o3] [] (zk B im lm) = if l2 < 0 then zeRun 35 28 [some (.ref 16), some (.int l1), some (.int l2), o3] [] (zk B im lm) else zeRun 35 19 [some (.ref 16), some (.int l1), some (.int l2), o3] [] (zk B im lm) := ze_if (ok := true) rfl 2 rfl rfl
theorem d_35_28 {B : zeB} {im : Nat → Nat → Int32} {lm : Nat → Nat → Int64} (o0 : Option Value) (o1 : Option Value) (o2 : Option Value) (o3 : Option Value)  : zeRun 35 28 [o0, o1, o2, o3] [] (zk B im lm) = some (some (.int (-10000002)), (zk B im lm)) := ze_ret (ok := true) rfl 2 rfl rfl
theorem d_35_19 {B : zeB} {im : Nat → Nat → Int32} {lm : Nat → Nat → Int64} (l1 : Int32) (l2 : Int32) (o3 : Option Value) (c0 : zeInb l1 3 = true) : zeRun 35 19 [some (.ref 16), some (.int l1), some (.int l2), o3] [] (zk B im lm) = if l2 ≤ (im 1 (Int32.toNatClampNeg l1)) then zeRun 35 31 [some (.ref 16), some (.int l1), some (.int l2), o3] [] (zk B im lm) else zeRun 35 28 [some (.ref 16), some (.int l1), some (.int l2), o3] [] (zk B im lm) := ze_if (ok := (zeInb l1 3 && true)) rfl 5 rfl (zeA2 c0 rfl)
theorem d_35_31 {B : zeB} {im : Nat → Nat → Int32} {lm : Nat → Nat → Int64} (l1 : Int32) (l2 : Int32) (o3 : Option Value) (c0 : zeInb l1 3 = true) (c1 : zeInb l1 3 = true) : zeRun 35 31 [some (.ref 16), some (.int l1), some (.int l2), o3] [] (zk B im lm) = some (some (.int (im 18 (Int32.toNatClampNeg l1))), (zk B (zeU2 im 18 (Int32.toNatClampNeg l1) l2) lm)) := ze_ret (ok := (zeInb l1 3 && (zeInb l1 3 && true))) rfl 14 rfl (zeA2 c1 (zeA2 c0 rfl))
def m_35 (l1 : Int32) (l2 : Int32) (im : zI) (lm : zJ) : zR :=
    zCk (if l1 < 0 then true else if l1 < 3 then if l2 < 0 then true else zeInb l1 3 else true) <|
    some (if l1 < 0 then (-10000001) else if l1 < 3 then if l2 < 0 then (-10000002) else if l2 ≤ (im 1 (Int32.toNatClampNeg l1)) then (im 18 (Int32.toNatClampNeg l1)) else (-10000002) else (-10000001), if l1 < 0 then im else if l1 < 3 then if l2 < 0 then im else if l2 ≤ (im 1 (Int32.toNatClampNeg l1)) then (zeU2 im 18 (Int32.toNatClampNeg l1) l2) else im else im, lm)
theorem m_35_ok {B : zeB} (l1 : Int32) (l2 : Int32) (im : zI) (lm : zJ) : zL B 1 (m_35 l1 l2 im lm) (zeRun 35 0 [some (.ref 16), some (.int l1), some (.int l2), none] [] (zk B im lm)) := by
  unfold m_35
  refine zL_ifm (d_35_0 _ _ _) (fun h => ?_) (fun h => ?_)
  · repeat rw [if_pos h]
    refine zL_ckt ?_
    exact zL_ret (d_35_12 _ _ _ _)
  · repeat rw [if_neg h]
    refine zL_ifm (d_35_4 _ _ _) (fun h => ?_) (fun h => ?_)
    · repeat rw [if_pos h]
      refine zL_ifm (d_35_15 _ _ _) (fun h => ?_) (fun h => ?_)
      · repeat rw [if_pos h]
        refine zL_ckt ?_
        exact zL_ret (d_35_28 _ _ _ _)
      · repeat rw [if_neg h]
        refine zL_ck fun c1 => ?_
        refine zL_ifm (d_35_19 _ _ _ c1) (fun h => ?_) (fun h => ?_)
        · repeat rw [if_pos h]
          exact zL_ret (d_35_31 _ _ _ c1 c1)
        · repeat rw [if_neg h]
          exact zL_ret (d_35_28 _ _ _ _)
    · repeat rw [if_neg h]
      refine zL_ckt ?_
      exact zL_ret (d_35_12 _ _ _ _)
/-! X7_set -/
theorem d_36_0 {B : zeB} {im : Nat → Nat → Int32} {lm : Nat → Nat → Int64} (l1 : Int32) (l2 : Int32)  : zeRun 36 0 [some (.ref 16), some (.int l1), some (.int l2)] [] (zk B im lm) = zeBh 36 11 [some (.ref 16), some (.int l1), some (.int l2)] [] (zeRun 15 0 [some (.ref 42), some (.ref 17)] [] (zk B im lm)) := ze_call (ok := true) rfl 5 rfl rfl rfl
theorem d_36_11 {B : zeB} {im : Nat → Nat → Int32} {lm : Nat → Nat → Int64} (l1 : Int32) (l2 : Int32)  : zeRun 36 11 [some (.ref 16), some (.int l1), some (.int l2)] [] (zk B im lm) = zeBh 36 18 [some (.ref 16), some (.int l1), some (.int l2)] [.ref 16] (zeRun 35 0 [some (.ref 16), some (.int l1), some (.int l2), none] [] (zk B im lm)) := ze_call (ok := true) rfl 5 rfl rfl rfl
theorem d_36_18 {B : zeB} {im : Nat → Nat → Int32} {lm : Nat → Nat → Int64} (o0 : Option Value) (o1 : Option Value) (o2 : Option Value) (s1 : Int32)  : zeRun 36 18 [o0, o1, o2] [.int s1, .ref 16] (zk B im lm) = zeBh 36 21 [o0, o1, o2] [] (zeRun 21 0 [some (.ref 16), some (.int s1)] [] (zk B im lm)) := ze_call (ok := true) rfl 1 rfl rfl rfl
theorem d_36_21 {B : zeB} {im : Nat → Nat → Int32} {lm : Nat → Nat → Int64} (o0 : Option Value) (o1 : Option Value) (o2 : Option Value) (s0 : Int32)  : zeRun 36 21 [o0, o1, o2] [.int s0] (zk B im lm) = some (some (.int s0), (zk B im lm)) := ze_ret (ok := true) rfl 1 rfl rfl
def m_36 (l1 : Int32) (l2 : Int32) (im : zI) (lm : zJ) : zR :=
    zBd (m_15  im lm) fun _ im1 lm1 =>
    zBd (m_35 l1 l2 im1 lm1) fun v2 im2 lm2 =>
    zBd (m_21 v2 im2 lm2) fun v3 im3 lm3 =>
    some (v3, im3, lm3)
theorem m_36_ok {B : zeB} (l1 : Int32) (l2 : Int32) (im : zI) (lm : zJ) : zL B 1 (m_36 l1 l2 im lm) (zeRun 36 0 [some (.ref 16), some (.int l1), some (.int l2)] [] (zk B im lm)) := by
  unfold m_36
  refine zL_bdv (d_36_0 _ _) (m_15_ok _ _) fun _ im1 lm1 => ?_
  refine zL_bd (d_36_11 _ _) (m_35_ok _ _ _ _) fun v2 im2 lm2 => ?_
  refine zL_bd (d_36_18 _ _ _ _) (m_21_ok _ _ _) fun v3 im3 lm3 => ?_
  exact zL_ret (d_36_21 _ _ _ _)
/-! X8_set -/
theorem d_37_0 {B : zeB} {im : Nat → Nat → Int32} {lm : Nat → Nat → Int64} (l1 : Int32) (l2 : Int32) (o3 : Option Value)  : zeRun 37 0 [some (.ref 170), some (.int l1), some (.int l2), o3] [] (zk B im lm) = zeBh 37 6 [some (.ref 170), some (.int l1), some (.int l2), o3] [] (zeRun 32 0 [some (.int l1), some (.int 0), some (.int 2)] [] (zk B im lm)) := ze_call (ok := true) rfl 4 rfl rfl rfl
theorem d_37_6 {B : zeB} {im : Nat → Nat → Int32} {lm : Nat → Nat → Int64} (l1 : Int32) (l2 : Int32) (o3 : Option Value) (s0 : Int32)  : zeRun 37 6 [some (.ref 170), some (.int l1), some (.int l2), o3] [.int s0] (zk B im lm) = if s0 = 0 then zeRun 37 9 [some (.ref 170), some (.int l1), some (.int l2), o3] [] (zk B im lm) else zeRun 37 12 [some (.ref 170), some (.int l1), some (.int l2), o3] [] (zk B im lm) := ze_if (ok := true) rfl 1 rfl rfl
theorem d_37_9 {B : zeB} {im : Nat → Nat → Int32} {lm : Nat → Nat → Int64} (o0 : Option Value) (o1 : Option Value) (o2 : Option Value) (o3 : Option Value)  : zeRun 37 9 [o0, o1, o2, o3] [] (zk B im lm) = some (some (.int (-10000001)), (zk B im lm)) := ze_ret (ok := true) rfl 2 rfl rfl
theorem d_37_12 {B : zeB} {im : Nat → Nat → Int32} {lm : Nat → Nat → Int64} (l1 : Int32) (l2 : Int32) (o3 : Option Value)  : zeRun 37 12 [some (.ref 170), some (.int l1), some (.int l2), o3] [] (zk B im lm) = if l1 = 2 then zeRun 37 19 [some (.ref 170), some (.int l1), some (.int l2), o3] [.int 0, .int l2] (zk B im lm) else zeRun 37 24 [some (.ref 170), some (.int l1), some (.int l2), o3] [.int 0, .int l2] (zk B im lm) := ze_if (ok := true) rfl 5 rfl rfl
theorem d_37_19 {B : zeB} {im : Nat → Nat → Int32} {lm : Nat → Nat → Int64} (l1 : Int32) (l2 : Int32) (o3 : Option Value) (s0 : Int32) (s1 : Int32)  : zeRun 37 19 [some (.ref 170), some (.int l1), some (.int l2), o3] [.int s1, .int s0] (zk B im lm) = zeRun 37 26 [some (.ref 170), some (.int l1), some (.int l2), o3] [.int 100, .int s1, .int s0] (zk B im lm) := ze_go (ok := true) rfl 2 rfl rfl
theorem d_37_24 {B : zeB} {im : Nat → Nat → Int32} {lm : Nat → Nat → Int64} (l1 : Int32) (l2 : Int32) (o3 : Option Value) (s0 : Int32) (s1 : Int32)  : zeRun 37 24 [some (.ref 170), some (.int l1), some (.int l2), o3] [.int s1, .int s0] (zk B im lm) = zeRun 37 26 [some (.ref 170), some (.int l1), some (.int l2), o3] [.int 30, .int s1, .int s0] (zk B im lm) := ze_go (ok := true) rfl 1 rfl rfl
theorem d_37_26 {B : zeB} {im : Nat → Nat → Int32} {lm : Nat → Nat → Int64} (l1 : Int32) (l2 : Int32) (o3 : Option Value) (s0 : Int32) (s1 : Int32) (s2 : Int32)  : zeRun 37 26 [some (.ref 170), some (.int l1), some (.int l2), o3] [.int s2, .int s1, .int s0] (zk B im lm) = zeBh 37 29 [some (.ref 170), some (.int l1), some (.int l2), o3] [] (zeRun 32 0 [some (.int s0), some (.int s1), some (.int s2)] [] (zk B im lm)) := ze_call (ok := true) rfl 1 rfl rfl rfl
theorem d_37_29 {B : zeB} {im : Nat → Nat → Int32} {lm : Nat → Nat → Int64} (l1 : Int32) (l2 : Int32) (o3 : Option Value) (s0 : Int32)  : zeRun 37 29 [some (.ref 170), some (.int l1), some (.int l2), o3] [.int s0] (zk B im lm) = if s0 = 0 then zeRun 37 32 [some (.ref 170), some (.int l1), some (.int l2), o3] [] (zk B im lm) else zeRun 37 35 [some (.ref 170), some (.int l1), some (.int l2), o3] [] (zk B im lm) := ze_if (ok := true) rfl 1 rfl rfl
theorem d_37_32 {B : zeB} {im : Nat → Nat → Int32} {lm : Nat → Nat → Int64} (o0 : Option Value) (o1 : Option Value) (o2 : Option Value) (o3 : Option Value)  : zeRun 37 32 [o0, o1, o2, o3] [] (zk B im lm) = some (some (.int (-10000002)), (zk B im lm)) := ze_ret (ok := true) rfl 2 rfl rfl
theorem d_37_35 {B : zeB} {im : Nat → Nat → Int32} {lm : Nat → Nat → Int64} (l1 : Int32) (l2 : Int32) (o3 : Option Value)  : zeRun 37 35 [some (.ref 170), some (.int l1), some (.int l2), o3] [] (zk B im lm) = zeBh 37 39 [some (.ref 170), some (.int l1), some (.int l2), o3] [] (zeRun 25 0 [some (.ref 170), none] [] (zk B im lm)) := ze_call (ok := true) rfl 2 rfl rfl rfl
theorem d_37_39 {B : zeB} {im : Nat → Nat → Int32} {lm : Nat → Nat → Int64} (l1 : Int32) (l2 : Int32) (o3 : Option Value) (c0 : zeInb (6 + l1) 360 = true) (c1 : zeInb (6 + l1) 360 = true) : zeRun 37 39 [some (.ref 170), some (.int l1), some (.int l2), o3] [] (zk B im lm) = some (some (.int (im 171 (Int32.toNatClampNeg (6 + l1)))), (zk B (zeU2 im 171 (Int32.toNatClampNeg (6 + l1)) l2) lm)) := ze_ret (ok := (zeInb (6 + l1) 360 && (zeInb (6 + l1) 360 && true))) rfl 16 rfl (zeA2 c1 (zeA2 c0 rfl))
def J_37_26  (l1 : Int32) (l2 : Int32) (s0 : Int32) (s1 : Int32) (s2 : Int32) (im : zI) (lm : zJ) : zR :=
    if (if s0 < s1 then 0 else if s2 < s0 then 0 else 1 : Int32) = 0 then
      some ((-10000002), im, lm)
    else
      zBd (m_25  im lm) fun _ im2 lm2 =>
      zCk (zeInb (6 + l1) 360) <|
      some ((im2 171 (Int32.toNatClampNeg (6 + l1))), (zeU2 im2 171 (Int32.toNatClampNeg (6 + l1)) l2), lm2)
theorem J_37_26_ok {B : zeB} (l1 : Int32) (l2 : Int32) (s0 : Int32) (s1 : Int32) (s2 : Int32) (o3 : Option Value) (im : zI) (lm : zJ) : zL B 1 (J_37_26  l1 l2 s0 s1 s2 im lm) (zeRun 37 26 [some (.ref 170), some (.int l1), some (.int l2), o3] [.int s2, .int s1, .int s0] (zk B im lm)) := by
  unfold J_37_26
  refine zL_bdp (e := (if s0 < s1 then 0 else if s2 < s0 then 0 else 1 : Int32)) (d_37_26 _ _ _ _ _ _) (m_32_ok _ _ _ _ _) ?_
  refine zL_if (d_37_29 _ _ _ _) (fun h => ?_) (fun h => ?_)
  · skip
    exact zL_ret (d_37_32 _ _ _ _)
  · skip
    refine zL_bdv (d_37_35 _ _ _) (m_25_ok _ _) fun _ im2 lm2 => ?_
    refine zL_ck fun c1 => ?_
    exact zL_ret (d_37_39 _ _ _ c1 c1)
def m_37 (l1 : Int32) (l2 : Int32) (im : zI) (lm : zJ) : zR :=
    if (if l1 < 0 then 0 else if 2 < l1 then 0 else 1 : Int32) = 0 then
      some ((-10000001), im, lm)
    else
      J_37_26   l1 l2 l2 0 (if l1 = 2 then 100 else 30) im lm
theorem m_37_ok {B : zeB} (l1 : Int32) (l2 : Int32) (im : zI) (lm : zJ) : zL B 1 (m_37 l1 l2 im lm) (zeRun 37 0 [some (.ref 170), some (.int l1), some (.int l2), none] [] (zk B im lm)) := by
  unfold m_37
  refine zL_bdp (e := (if l1 < 0 then 0 else if 2 < l1 then 0 else 1 : Int32)) (d_37_0 _ _ _) (m_32_ok _ _ _ _ _) ?_
  refine zL_if (d_37_6 _ _ _ _) (fun h => ?_) (fun h => ?_)
  · skip
    exact zL_ret (d_37_9 _ _ _ _)
  · skip
    refine zL_ifm (d_37_12 _ _ _) (fun h => ?_) (fun h => ?_)
    · repeat rw [if_pos h]
      refine zL_eq (d_37_19 _ _ _ _ _) ?_
      exact J_37_26_ok   _ _ _ _ _ _ _ _
    · repeat rw [if_neg h]
      refine zL_eq (d_37_24 _ _ _ _ _) ?_
      exact J_37_26_ok   _ _ _ _ _ _ _ _
/-! X7_isPlayer -/
theorem d_38_0 {B : zeB} {im : Nat → Nat → Int32} {lm : Nat → Nat → Int64} (l1 : Int32)  : zeRun 38 0 [some (.ref 16), some (.int l1)] [] (zk B im lm) = if l1 < 0 then zeRun 38 19 [some (.ref 16), some (.int l1)] [] (zk B im lm) else zeRun 38 4 [some (.ref 16), some (.int l1)] [] (zk B im lm) := ze_if (ok := true) rfl 2 rfl rfl
theorem d_38_19 {B : zeB} {im : Nat → Nat → Int32} {lm : Nat → Nat → Int64} (o0 : Option Value) (o1 : Option Value)  : zeRun 38 19 [o0, o1] [] (zk B im lm) = some (some (.int 0), (zk B im lm)) := ze_ret (ok := true) rfl 2 rfl rfl
theorem d_38_4 {B : zeB} {im : Nat → Nat → Int32} {lm : Nat → Nat → Int64} (l1 : Int32)  : zeRun 38 4 [some (.ref 16), some (.int l1)] [] (zk B im lm) = if (im 17 1) ≤ l1 then zeRun 38 19 [some (.ref 16), some (.int l1)] [] (zk B im lm) else zeRun 38 15 [some (.ref 16), some (.int l1)] [] (zk B im lm) := ze_if (ok := true) rfl 5 rfl rfl
theorem d_38_15 {B : zeB} {im : Nat → Nat → Int32} {lm : Nat → Nat → Int64} (o0 : Option Value) (o1 : Option Value)  : zeRun 38 15 [o0, o1] [] (zk B im lm) = some (some (.int 1), (zk B im lm)) := ze_ret (ok := true) rfl 3 rfl rfl
def m_38 (l1 : Int32) (im : zI) (lm : zJ) : zR :=
    some (if l1 < 0 then 0 else if (im 17 1) ≤ l1 then 0 else 1, im, lm)
theorem m_38_ok {B : zeB} (l1 : Int32) (im : zI) (lm : zJ) : zL B 1 (m_38 l1 im lm) (zeRun 38 0 [some (.ref 16), some (.int l1)] [] (zk B im lm)) := by
  unfold m_38
  refine zL_ifm (d_38_0 _) (fun h => ?_) (fun h => ?_)
  · repeat rw [if_pos h]
    exact zL_ret (d_38_19 _ _)
  · repeat rw [if_neg h]
    refine zL_ifm (d_38_4 _) (fun h => ?_) (fun h => ?_)
    · repeat rw [if_pos h]
      exact zL_ret (d_38_19 _ _)
    · repeat rw [if_neg h]
      exact zL_ret (d_38_15 _ _)
/-! X7_controller -/
theorem d_39_0 {B : zeB} {im : Nat → Nat → Int32} {lm : Nat → Nat → Int64}   : zeRun 39 0 [some (.ref 16)] [] (zk B im lm) = if (im 17 1) = 0 then zeRun 39 10 [some (.ref 16)] [] (zk B im lm) else zeRun 39 15 [some (.ref 16)] [] (zk B im lm) := ze_if (ok := true) rfl 4 rfl rfl
theorem d_39_10 {B : zeB} {im : Nat → Nat → Int32} {lm : Nat → Nat → Int64} (o0 : Option Value)  : zeRun 39 10 [o0] [] (zk B im lm) = some (some (.int (-10000005)), (zk B im lm)) := ze_ret (ok := true) rfl 3 rfl rfl
theorem d_39_15 {B : zeB} {im : Nat → Nat → Int32} {lm : Nat → Nat → Int64}   : zeRun 39 15 [some (.ref 16)] [] (zk B im lm) = some (some (.int (im 32 0)), (zk B im lm)) := ze_ret (ok := true) rfl 4 rfl rfl
def m_39  (im : zI) (lm : zJ) : zR :=
    some (if (im 17 1) = 0 then (-10000005) else (im 32 0), im, lm)
theorem m_39_ok {B : zeB}  (im : zI) (lm : zJ) : zL B 1 (m_39  im lm) (zeRun 39 0 [some (.ref 16)] [] (zk B im lm)) := by
  unfold m_39
  refine zL_ifm d_39_0 (fun h => ?_) (fun h => ?_)
  · repeat rw [if_pos h]
    exact zL_ret (d_39_10 _)
  · repeat rw [if_neg h]
    exact zL_ret d_39_15
/-! X3_begin -/
theorem d_40_0 {B : zeB} {im : Nat → Nat → Int32} {lm : Nat → Nat → Int64} (l1 : Int32) (l2 : Int32) (l3 : Int32) (o4 : Option Value)  : zeRun 40 0 [some (.ref 19), some (.int l1), some (.int l2), some (.int l3), o4] [] (zk B im lm) = zeRun 40 28 [some (.ref 19), some (.int l1), some (.int l2), some (.int l3), some (.int 0)] [] (zk B (zeU2 (zeU2 (zeU2 (zeU2 (zeU2 im 19 0 l1) 19 1 l2) 19 2 l3) 19 3 0) 19 4 0) lm) := ze_go (ok := true) rfl 17 rfl rfl
theorem d_40_28 {B : zeB} {im : Nat → Nat → Int32} {lm : Nat → Nat → Int64} (o1 : Option Value) (o2 : Option Value) (o3 : Option Value) (l4 : Int32)  : zeRun 40 28 [some (.ref 19), o1, o2, o3, some (.int l4)] [] (zk B im lm) = if 6 ≤ l4 then zeRun 40 66 [some (.ref 19), o1, o2, o3, some (.int l4)] [] (zk B im lm) else zeRun 40 35 [some (.ref 19), o1, o2, o3, some (.int l4)] [] (zk B im lm) := ze_if (ok := true) rfl 3 rfl rfl
theorem d_40_66 {B : zeB} {im : Nat → Nat → Int32} {lm : Nat → Nat → Int64} (o0 : Option Value) (o1 : Option Value) (o2 : Option Value) (o3 : Option Value) (o4 : Option Value)  : zeRun 40 66 [o0, o1, o2, o3, o4] [] (zk B im lm) = some (none, (zk B im lm)) := ze_ret (ok := true) rfl 1 rfl rfl
theorem d_40_35 {B : zeB} {im : Nat → Nat → Int32} {lm : Nat → Nat → Int64} (o1 : Option Value) (o2 : Option Value) (o3 : Option Value) (l4 : Int32) (c0 : zeInb l4 6 = true) (c1 : zeInb l4 6 = true) (c2 : zeInb l4 6 = true) : zeRun 40 35 [some (.ref 19), o1, o2, o3, some (.int l4)] [] (zk B im lm) = zeRun 40 28 [some (.ref 19), o1, o2, o3, some (.int (l4 + 1))] [] (zk B (zeU2 im 20 (Int32.toNatClampNeg l4) (-10000005)) (zeU2 (zeU2 lm 21 (Int32.toNatClampNeg l4) 0) 22 (Int32.toNatClampNeg l4) 0)) := ze_go (ok := (zeInb l4 6 && (zeInb l4 6 && (zeInb l4 6 && true)))) rfl 17 rfl (zeA2 c2 (zeA2 c1 (zeA2 c0 rfl)))
def F_40_28  : Nat → Int32 → zI → zJ → zR
  | 0, _, _, _ => none
  | n + 1, l4, im, lm =>
    if 6 ≤ l4 then
      some (0, im, lm)
    else
      zCk (zeInb l4 6) <|
      F_40_28  n (l4 + 1) (zeU2 im 20 (Int32.toNatClampNeg l4) (-10000005)) (zeU2 (zeU2 lm 21 (Int32.toNatClampNeg l4) 0) 22 (Int32.toNatClampNeg l4) 0)
theorem F_40_28_ok {B : zeB} : ∀ (n : Nat) (l4 : Int32) (o1 : Option Value) (o2 : Option Value) (o3 : Option Value) (im : zI) (lm : zJ), zL B 0 (F_40_28  n l4 im lm) (zeRun 40 28 [some (.ref 19), o1, o2, o3, some (.int l4)] [] (zk B im lm)) := by
  intro n
  induction n with
  | zero => intros; exact zL_none
  | succ n ih =>
    intro l4 o1 o2 o3 im lm
    unfold F_40_28
    refine zL_if (d_40_28 _ _ _ _) (fun h => ?_) (fun h => ?_)
    · skip
      exact zL_retv (d_40_66 _ _ _ _ _)
    · skip
      refine zL_ck fun c1 => ?_
      refine zL_eq (d_40_35 _ _ _ _ c1 c1 c1) ?_
      exact ih _ _ _ _ _ _
def m_40 (l1 : Int32) (l2 : Int32) (l3 : Int32) (im : zI) (lm : zJ) : zR :=
    F_40_28  2000 0 (zeU2 (zeU2 (zeU2 (zeU2 (zeU2 im 19 0 l1) 19 1 l2) 19 2 l3) 19 3 0) 19 4 0) lm
theorem m_40_ok {B : zeB} (l1 : Int32) (l2 : Int32) (l3 : Int32) (im : zI) (lm : zJ) : zL B 0 (m_40 l1 l2 l3 im lm) (zeRun 40 0 [some (.ref 19), some (.int l1), some (.int l2), some (.int l3), none] [] (zk B im lm)) := by
  unfold m_40
  refine zL_eq (d_40_0 _ _ _ _) ?_
  exact F_40_28_ok  _ _ _ _ _ _ _
/-! X7_valueOf -/
theorem d_41_0 {B : zeB} {im : Nat → Nat → Int32} {lm : Nat → Nat → Int64} (l0 : Int32)  : zeRun 41 0 [some (.int l0)] [] (zk B im lm) = some (some (.int (100 * ((l0 / 5) + 1))), (zk B im lm)) := ze_ret (ok := true) rfl 8 rfl rfl
def m_41 (l0 : Int32) (im : zI) (lm : zJ) : zR :=
    some ((100 * ((l0 / 5) + 1)), im, lm)
theorem m_41_ok {B : zeB} (l0 : Int32) (im : zI) (lm : zJ) : zL B 1 (m_41 l0 im lm) (zeRun 41 0 [some (.int l0)] [] (zk B im lm)) := by
  unfold m_41
  exact zL_ret (d_41_0 _)
/-! X7_doPick -/
theorem d_42_0 {B : zeB} {im : Nat → Nat → Int32} {lm : Nat → Nat → Int64} (l1 : Int32) (l2 : Int32)  : zeRun 42 0 [some (.ref 16), some (.int l1), some (.int l2)] [] (zk B im lm) = zeBh 42 5 [some (.ref 16), some (.int l1), some (.int l2)] [] (zeRun 38 0 [some (.ref 16), some (.int l1)] [] (zk B im lm)) := ze_call (ok := true) rfl 3 rfl rfl rfl
theorem d_42_5 {B : zeB} {im : Nat → Nat → Int32} {lm : Nat → Nat → Int64} (l1 : Int32) (l2 : Int32) (s0 : Int32)  : zeRun 42 5 [some (.ref 16), some (.int l1), some (.int l2)] [.int s0] (zk B im lm) = if s0 = 0 then zeRun 42 15 [some (.ref 16), some (.int l1), some (.int l2)] [] (zk B im lm) else zeRun 42 8 [some (.ref 16), some (.int l1), some (.int l2)] [] (zk B im lm) := ze_if (ok := true) rfl 1 rfl rfl
theorem d_42_15 {B : zeB} {im : Nat → Nat → Int32} {lm : Nat → Nat → Int64} (o0 : Option Value) (o1 : Option Value) (o2 : Option Value)  : zeRun 42 15 [o0, o1, o2] [] (zk B im lm) = some (some (.int (-10000001)), (zk B im lm)) := ze_ret (ok := true) rfl 2 rfl rfl
theorem d_42_8 {B : zeB} {im : Nat → Nat → Int32} {lm : Nat → Nat → Int64} (l1 : Int32) (l2 : Int32)  : zeRun 42 8 [some (.ref 16), some (.int l1), some (.int l2)] [] (zk B im lm) = zeBh 42 12 [some (.ref 16), some (.int l1), some (.int l2)] [] (zeRun 27 0 [some (.int l2)] [] (zk B im lm)) := ze_call (ok := true) rfl 2 rfl rfl rfl
theorem d_42_12 {B : zeB} {im : Nat → Nat → Int32} {lm : Nat → Nat → Int64} (l1 : Int32) (l2 : Int32) (s0 : Int32)  : zeRun 42 12 [some (.ref 16), some (.int l1), some (.int l2)] [.int s0] (zk B im lm) = if s0 = 0 then zeRun 42 15 [some (.ref 16), some (.int l1), some (.int l2)] [] (zk B im lm) else zeRun 42 18 [some (.ref 16), some (.int l1), some (.int l2)] [] (zk B im lm) := ze_if (ok := true) rfl 1 rfl rfl
theorem d_42_18 {B : zeB} {im : Nat → Nat → Int32} {lm : Nat → Nat → Int64} (l1 : Int32) (l2 : Int32)  : zeRun 42 18 [some (.ref 16), some (.int l1), some (.int l2)] [] (zk B im lm) = if (im 17 0) = 0 then zeRun 42 34 [some (.ref 16), some (.int l1), some (.int l2)] [] (zk B im lm) else zeRun 42 28 [some (.ref 16), some (.int l1), some (.int l2)] [] (zk B im lm) := ze_if (ok := true) rfl 4 rfl rfl
theorem d_42_34 {B : zeB} {im : Nat → Nat → Int32} {lm : Nat → Nat → Int64} (l1 : Int32) (l2 : Int32)  : zeRun 42 34 [some (.ref 16), some (.int l1), some (.int l2)] [] (zk B im lm) = zeBh 42 39 [some (.ref 16), some (.int l1), some (.int l2)] [.int l1] (zeRun 39 0 [some (.ref 16)] [] (zk B im lm)) := ze_call (ok := true) rfl 3 rfl rfl rfl
theorem d_42_39 {B : zeB} {im : Nat → Nat → Int32} {lm : Nat → Nat → Int64} (o1 : Option Value) (l2 : Int32) (s0 : Int32) (s1 : Int32)  : zeRun 42 39 [some (.ref 16), o1, some (.int l2)] [.int s1, .int s0] (zk B im lm) = if s0 = s1 then zeRun 42 48 [some (.ref 16), o1, some (.int l2)] [] (zk B im lm) else zeRun 42 42 [some (.ref 16), o1, some (.int l2)] [] (zk B im lm) := ze_if (ok := true) rfl 1 rfl rfl
theorem d_42_48 {B : zeB} {im : Nat → Nat → Int32} {lm : Nat → Nat → Int64} (o1 : Option Value) (l2 : Int32)  : zeRun 42 48 [some (.ref 16), o1, some (.int l2)] [] (zk B im lm) = zeBh 42 59 [some (.ref 16), o1, some (.int l2)] [] (zeRun 28 0 [some (.int (im 17 3)), some (.int l2)] [] (zk B im lm)) := ze_call (ok := true) rfl 5 rfl rfl rfl
theorem d_42_59 {B : zeB} {im : Nat → Nat → Int32} {lm : Nat → Nat → Int64} (o1 : Option Value) (l2 : Int32) (s0 : Int32)  : zeRun 42 59 [some (.ref 16), o1, some (.int l2)] [.int s0] (zk B im lm) = if s0 = 1 then zeRun 42 63 [some (.ref 16), o1, some (.int l2)] [] (zk B im lm) else zeRun 42 69 [some (.ref 16), o1, some (.int l2)] [] (zk B im lm) := ze_if (ok := true) rfl 2 rfl rfl
theorem d_42_63 {B : zeB} {im : Nat → Nat → Int32} {lm : Nat → Nat → Int64} (o1 : Option Value) (o2 : Option Value)  : zeRun 42 63 [some (.ref 16), o1, o2] [] (zk B im lm) = zeBh 42 68 [some (.ref 16), o1, o2] [] (zeRun 17 0 [some (.ref 16), some (.int 3)] [] (zk B im lm)) := ze_call (ok := true) rfl 3 rfl rfl rfl
theorem d_42_68 {B : zeB} {im : Nat → Nat → Int32} {lm : Nat → Nat → Int64} (o0 : Option Value) (o1 : Option Value) (o2 : Option Value) (s0 : Int32)  : zeRun 42 68 [o0, o1, o2] [.int s0] (zk B im lm) = some (some (.int s0), (zk B im lm)) := ze_ret (ok := true) rfl 1 rfl rfl
theorem d_42_69 {B : zeB} {im : Nat → Nat → Int32} {lm : Nat → Nat → Int64} (o1 : Option Value) (l2 : Int32)  : zeRun 42 69 [some (.ref 16), o1, some (.int l2)] [] (zk B im lm) = zeBh 42 113 [some (.ref 16), o1, some (.int l2)] [] (zeRun 40 0 [some (.ref 19), some (.int l2), some (.int (im 18 0)), some (.int (im 18 1)), none] [] (zk B (zeU2 im 17 3 ((im 17 3) ||| (1 <<< (l2 &&& 31)))) lm)) := ze_call (ok := true) rfl 24 rfl rfl rfl
theorem d_42_113 {B : zeB} {im : Nat → Nat → Int32} {lm : Nat → Nat → Int64} (o1 : Option Value) (l2 : Int32)  : zeRun 42 113 [some (.ref 16), o1, some (.int l2)] [] (zk B im lm) = zeBh 42 128 [some (.ref 16), o1, some (.int l2)] [.ref 17] (zeRun 28 0 [some (.int (im 17 2)), some (.int l2)] [] (zk B im lm)) := ze_call (ok := true) rfl 7 rfl rfl rfl
theorem d_42_128 {B : zeB} {im : Nat → Nat → Int32} {lm : Nat → Nat → Int64} (o0 : Option Value) (o1 : Option Value) (l2 : Int32) (s1 : Int32)  : zeRun 42 128 [o0, o1, some (.int l2)] [.int s1, .ref 17] (zk B im lm) = if s1 = 1 then zeRun 42 132 [o0, o1, some (.int l2)] [.ref 17] (zk B im lm) else zeRun 42 136 [o0, o1, some (.int l2)] [.ref 17] (zk B im lm) := ze_if (ok := true) rfl 2 rfl rfl
theorem d_42_132 {B : zeB} {im : Nat → Nat → Int32} {lm : Nat → Nat → Int64} (o0 : Option Value) (o1 : Option Value) (l2 : Int32)  : zeRun 42 132 [o0, o1, some (.int l2)] [.ref 17] (zk B im lm) = zeRun 42 137 [o0, o1, some (.int l2)] [.int 2, .ref 17] (zk B im lm) := ze_go (ok := true) rfl 2 rfl rfl
theorem d_42_136 {B : zeB} {im : Nat → Nat → Int32} {lm : Nat → Nat → Int64} (o0 : Option Value) (o1 : Option Value) (l2 : Int32)  : zeRun 42 136 [o0, o1, some (.int l2)] [.ref 17] (zk B im lm) = zeRun 42 137 [o0, o1, some (.int l2)] [.int 1, .ref 17] (zk B im lm) := ze_go (ok := true) rfl 1 rfl rfl
theorem d_42_42 {B : zeB} {im : Nat → Nat → Int32} {lm : Nat → Nat → Int64} (o1 : Option Value) (o2 : Option Value)  : zeRun 42 42 [some (.ref 16), o1, o2] [] (zk B im lm) = zeBh 42 47 [some (.ref 16), o1, o2] [] (zeRun 17 0 [some (.ref 16), some (.int 2)] [] (zk B im lm)) := ze_call (ok := true) rfl 3 rfl rfl rfl
theorem d_42_47 {B : zeB} {im : Nat → Nat → Int32} {lm : Nat → Nat → Int64} (o0 : Option Value) (o1 : Option Value) (o2 : Option Value) (s0 : Int32)  : zeRun 42 47 [o0, o1, o2] [.int s0] (zk B im lm) = some (some (.int s0), (zk B im lm)) := ze_ret (ok := true) rfl 1 rfl rfl
theorem d_42_28 {B : zeB} {im : Nat → Nat → Int32} {lm : Nat → Nat → Int64} (o1 : Option Value) (o2 : Option Value)  : zeRun 42 28 [some (.ref 16), o1, o2] [] (zk B im lm) = zeBh 42 33 [some (.ref 16), o1, o2] [] (zeRun 17 0 [some (.ref 16), some (.int 1)] [] (zk B im lm)) := ze_call (ok := true) rfl 3 rfl rfl rfl
theorem d_42_33 {B : zeB} {im : Nat → Nat → Int32} {lm : Nat → Nat → Int64} (o0 : Option Value) (o1 : Option Value) (o2 : Option Value) (s0 : Int32)  : zeRun 42 33 [o0, o1, o2] [.int s0] (zk B im lm) = some (some (.int s0), (zk B im lm)) := ze_ret (ok := true) rfl 1 rfl rfl
theorem d_42_137 {B : zeB} {im : Nat → Nat → Int32} {lm : Nat → Nat → Int64} (o0 : Option Value) (o1 : Option Value) (l2 : Int32) (s1 : Int32)  : zeRun 42 137 [o0, o1, some (.int l2)] [.int s1, .ref 17] (zk B im lm) = zeBh 42 144 [o0, o1, some (.int l2)] [] (zeRun 41 0 [some (.int l2)] [] (zk B (zeU2 im 17 0 s1) lm)) := ze_call (ok := true) rfl 3 rfl rfl rfl
theorem d_42_144 {B : zeB} {im : Nat → Nat → Int32} {lm : Nat → Nat → Int64} (o0 : Option Value) (o1 : Option Value) (o2 : Option Value) (s0 : Int32)  : zeRun 42 144 [o0, o1, o2] [.int s0] (zk B im lm) = some (some (.int s0), (zk B im lm)) := ze_ret (ok := true) rfl 1 rfl rfl
def J_42_137  (l2 : Int32) (s1 : Int32) (im : zI) (lm : zJ) : zR :=
    some (((100 * ((l2 / 5) + 1)) : Int32), (zeU2 im 17 0 s1), lm)
theorem J_42_137_ok {B : zeB} (l2 : Int32) (s1 : Int32) (o0 : Option Value) (o1 : Option Value) (im : zI) (lm : zJ) : zL B 1 (J_42_137  l2 s1 im lm) (zeRun 42 137 [o0, o1, some (.int l2)] [.int s1, .ref 17] (zk B im lm)) := by
  unfold J_42_137
  refine zL_bdp (e := ((100 * ((l2 / 5) + 1)) : Int32)) (d_42_137 _ _ _ _) (m_41_ok _ _ _) ?_
  exact zL_ret (d_42_144 _ _ _ _)
def m_42 (l1 : Int32) (l2 : Int32) (im : zI) (lm : zJ) : zR :=
    if (if l1 < 0 then 0 else if (im 17 1) ≤ l1 then 0 else 1 : Int32) = 0 then
      some ((-10000001), im, lm)
    else
      if (if l2 < 0 then 0 else if 25 ≤ l2 then 0 else 1 : Int32) = 0 then
        some ((-10000001), im, lm)
      else
        if (im 17 0) = 0 then
          if l1 = (if (im 17 1) = 0 then (-10000005) else (im 32 0) : Int32) then
            if ((((im 17 3) >>> (l2 &&& 31)) &&& 1) : Int32) = 1 then
              zBd (m_17 3 im lm) fun v5 im5 lm5 =>
              some (v5, im5, lm5)
            else
              zBd (m_40 l2 (im 18 0) (im 18 1) (zeU2 im 17 3 ((im 17 3) ||| (1 <<< (l2 &&& 31)))) lm) fun _ im6 lm6 =>
              J_42_137   l2 (if ((((im6 17 2) >>> (l2 &&& 31)) &&& 1) : Int32) = 1 then 2 else 1) im6 lm6
          else
            zBd (m_17 2 im lm) fun v8 im8 lm8 =>
            some (v8, im8, lm8)
        else
          zBd (m_17 1 im lm) fun v9 im9 lm9 =>
          some (v9, im9, lm9)
theorem m_42_ok {B : zeB} (l1 : Int32) (l2 : Int32) (im : zI) (lm : zJ) : zL B 1 (m_42 l1 l2 im lm) (zeRun 42 0 [some (.ref 16), some (.int l1), some (.int l2)] [] (zk B im lm)) := by
  unfold m_42
  refine zL_bdp (e := (if l1 < 0 then 0 else if (im 17 1) ≤ l1 then 0 else 1 : Int32)) (d_42_0 _ _) (m_38_ok _ _ _) ?_
  refine zL_if (d_42_5 _ _ _) (fun h => ?_) (fun h => ?_)
  · skip
    exact zL_ret (d_42_15 _ _ _)
  · skip
    refine zL_bdp (e := (if l2 < 0 then 0 else if 25 ≤ l2 then 0 else 1 : Int32)) (d_42_8 _ _) (m_27_ok _ _ _) ?_
    refine zL_if (d_42_12 _ _ _) (fun h => ?_) (fun h => ?_)
    · skip
      exact zL_ret (d_42_15 _ _ _)
    · skip
      refine zL_if (d_42_18 _ _) (fun h => ?_) (fun h => ?_)
      · skip
        refine zL_bdp (e := (if (im 17 1) = 0 then (-10000005) else (im 32 0) : Int32)) (d_42_34 _ _) (m_39_ok _ _) ?_
        refine zL_if (d_42_39 _ _ _ _) (fun h => ?_) (fun h => ?_)
        · skip
          refine zL_bdp (e := ((((im 17 3) >>> (l2 &&& 31)) &&& 1) : Int32)) (d_42_48 _ _) (m_28_ok _ _ _ _) ?_
          refine zL_if (d_42_59 _ _ _) (fun h => ?_) (fun h => ?_)
          · skip
            refine zL_bd (d_42_63 _ _) (m_17_ok _ _ _) fun v5 im5 lm5 => ?_
            exact zL_ret (d_42_68 _ _ _ _)
          · skip
            refine zL_bdv (d_42_69 _ _) (m_40_ok _ _ _ _ _) fun _ im6 lm6 => ?_
            refine zL_bdp (e := ((((im6 17 2) >>> (l2 &&& 31)) &&& 1) : Int32)) (d_42_113 _ _) (m_28_ok _ _ _ _) ?_
            refine zL_ifm (d_42_128 _ _ _ _) (fun h => ?_) (fun h => ?_)
            · repeat rw [if_pos h]
              refine zL_eq (d_42_132 _ _ _) ?_
              exact J_42_137_ok   _ _ _ _ _ _
            · repeat rw [if_neg h]
              refine zL_eq (d_42_136 _ _ _) ?_
              exact J_42_137_ok   _ _ _ _ _ _
        · skip
          refine zL_bd (d_42_42 _ _) (m_17_ok _ _ _) fun v8 im8 lm8 => ?_
          exact zL_ret (d_42_47 _ _ _ _)
      · skip
        refine zL_bd (d_42_28 _ _) (m_17_ok _ _ _) fun v9 im9 lm9 => ?_
        exact zL_ret (d_42_33 _ _ _ _)
/-! X7_pick -/
theorem d_43_0 {B : zeB} {im : Nat → Nat → Int32} {lm : Nat → Nat → Int64} (l1 : Int32) (l2 : Int32)  : zeRun 43 0 [some (.ref 16), some (.int l1), some (.int l2)] [] (zk B im lm) = zeBh 43 11 [some (.ref 16), some (.int l1), some (.int l2)] [] (zeRun 15 0 [some (.ref 42), some (.ref 17)] [] (zk B im lm)) := ze_call (ok := true) rfl 5 rfl rfl rfl
theorem d_43_11 {B : zeB} {im : Nat → Nat → Int32} {lm : Nat → Nat → Int64} (l1 : Int32) (l2 : Int32)  : zeRun 43 11 [some (.ref 16), some (.int l1), some (.int l2)] [] (zk B im lm) = zeBh 43 18 [some (.ref 16), some (.int l1), some (.int l2)] [.ref 16] (zeRun 42 0 [some (.ref 16), some (.int l1), some (.int l2)] [] (zk B im lm)) := ze_call (ok := true) rfl 5 rfl rfl rfl
theorem d_43_18 {B : zeB} {im : Nat → Nat → Int32} {lm : Nat → Nat → Int64} (o0 : Option Value) (o1 : Option Value) (o2 : Option Value) (s1 : Int32)  : zeRun 43 18 [o0, o1, o2] [.int s1, .ref 16] (zk B im lm) = zeBh 43 21 [o0, o1, o2] [] (zeRun 21 0 [some (.ref 16), some (.int s1)] [] (zk B im lm)) := ze_call (ok := true) rfl 1 rfl rfl rfl
theorem d_43_21 {B : zeB} {im : Nat → Nat → Int32} {lm : Nat → Nat → Int64} (o0 : Option Value) (o1 : Option Value) (o2 : Option Value) (s0 : Int32)  : zeRun 43 21 [o0, o1, o2] [.int s0] (zk B im lm) = some (some (.int s0), (zk B im lm)) := ze_ret (ok := true) rfl 1 rfl rfl
def m_43 (l1 : Int32) (l2 : Int32) (im : zI) (lm : zJ) : zR :=
    zBd (m_15  im lm) fun _ im1 lm1 =>
    zBd (m_42 l1 l2 im1 lm1) fun v2 im2 lm2 =>
    zBd (m_21 v2 im2 lm2) fun v3 im3 lm3 =>
    some (v3, im3, lm3)
theorem m_43_ok {B : zeB} (l1 : Int32) (l2 : Int32) (im : zI) (lm : zJ) : zL B 1 (m_43 l1 l2 im lm) (zeRun 43 0 [some (.ref 16), some (.int l1), some (.int l2)] [] (zk B im lm)) := by
  unfold m_43
  refine zL_bdv (d_43_0 _ _) (m_15_ok _ _) fun _ im1 lm1 => ?_
  refine zL_bd (d_43_11 _ _) (m_42_ok _ _ _ _) fun v2 im2 lm2 => ?_
  refine zL_bd (d_43_18 _ _ _ _) (m_21_ok _ _ _) fun v3 im3 lm3 => ?_
  exact zL_ret (d_43_21 _ _ _ _)
/-! X8_noPlayer -/
theorem d_44_0 {B : zeB} {im : Nat → Nat → Int32} {lm : Nat → Nat → Int64} (l1 : Int32)  : zeRun 44 0 [some (.ref 170), some (.int l1)] [] (zk B im lm) = zeBh 44 13 [some (.ref 170), some (.int l1)] [] (zeRun 32 0 [some (.int l1), some (.int 0), some (.int ((im 171 1) - 1))] [] (zk B im lm)) := ze_call (ok := true) rfl 9 rfl rfl rfl
theorem d_44_13 {B : zeB} {im : Nat → Nat → Int32} {lm : Nat → Nat → Int64} (o0 : Option Value) (o1 : Option Value) (s0 : Int32)  : zeRun 44 13 [o0, o1] [.int s0] (zk B im lm) = if s0 = 0 then zeRun 44 16 [o0, o1] [] (zk B im lm) else zeRun 44 20 [o0, o1] [] (zk B im lm) := ze_if (ok := true) rfl 1 rfl rfl
theorem d_44_16 {B : zeB} {im : Nat → Nat → Int32} {lm : Nat → Nat → Int64} (o0 : Option Value) (o1 : Option Value)  : zeRun 44 16 [o0, o1] [] (zk B im lm) = some (some (.int 1), (zk B im lm)) := ze_ret (ok := true) rfl 3 rfl rfl
theorem d_44_20 {B : zeB} {im : Nat → Nat → Int32} {lm : Nat → Nat → Int64} (o0 : Option Value) (o1 : Option Value)  : zeRun 44 20 [o0, o1] [] (zk B im lm) = some (some (.int 0), (zk B im lm)) := ze_ret (ok := true) rfl 2 rfl rfl
def m_44 (l1 : Int32) (im : zI) (lm : zJ) : zR :=
    some (if (if l1 < 0 then 0 else if ((im 171 1) - 1) < l1 then 0 else 1 : Int32) = 0 then 1 else 0, im, lm)
theorem m_44_ok {B : zeB} (l1 : Int32) (im : zI) (lm : zJ) : zL B 1 (m_44 l1 im lm) (zeRun 44 0 [some (.ref 170), some (.int l1)] [] (zk B im lm)) := by
  unfold m_44
  refine zL_bdp (e := (if l1 < 0 then 0 else if ((im 171 1) - 1) < l1 then 0 else 1 : Int32)) (d_44_0 _) (m_32_ok _ _ _ _ _) ?_
  refine zL_ifm (d_44_13 _ _ _) (fun h => ?_) (fun h => ?_)
  · repeat rw [if_pos h]
    exact zL_ret (d_44_16 _ _)
  · repeat rw [if_neg h]
    exact zL_ret (d_44_20 _ _)
/-! X8_at -/
theorem d_45_0 {B : zeB} {im : Nat → Nat → Int32} {lm : Nat → Nat → Int64} (l0 : Int32)  : zeRun 45 0 [some (.int l0)] [] (zk B im lm) = some (some (.int (60 + (5 * l0))), (zk B im lm)) := ze_ret (ok := true) rfl 6 rfl rfl
def m_45 (l0 : Int32) (im : zI) (lm : zJ) : zR :=
    some ((60 + (5 * l0)), im, lm)
theorem m_45_ok {B : zeB} (l0 : Int32) (im : zI) (lm : zJ) : zL B 1 (m_45 l0 im lm) (zeRun 45 0 [some (.int l0)] [] (zk B im lm)) := by
  unfold m_45
  exact zL_ret (d_45_0 _)
/-! X8_isStealVoid -/
theorem d_46_0 {B : zeB} {im : Nat → Nat → Int32} {lm : Nat → Nat → Int64} (l1 : Int32) (o2 : Option Value) (o3 : Option Value)  : zeRun 46 0 [some (.ref 170), some (.int l1), o2, o3] [] (zk B im lm) = zeRun 46 4 [some (.ref 170), some (.int l1), some (.int 0), some (.int 0)] [] (zk B im lm) := ze_go (ok := true) rfl 4 rfl rfl
theorem d_46_4 {B : zeB} {im : Nat → Nat → Int32} {lm : Nat → Nat → Int64} (l1 : Int32) (l2 : Int32) (l3 : Int32)  : zeRun 46 4 [some (.ref 170), some (.int l1), some (.int l2), some (.int l3)] [] (zk B im lm) = if l1 ≤ l3 then zeRun 46 95 [some (.ref 170), some (.int l1), some (.int l2), some (.int l3)] [] (zk B im lm) else zeRun 46 9 [some (.ref 170), some (.int l1), some (.int l2), some (.int l3)] [] (zk B im lm) := ze_if (ok := true) rfl 3 rfl rfl
theorem d_46_95 {B : zeB} {im : Nat → Nat → Int32} {lm : Nat → Nat → Int64} (o0 : Option Value) (o1 : Option Value) (l2 : Int32) (o3 : Option Value) (c0 : zeNok FieldType.boolean l2 = true) : zeRun 46 95 [o0, o1, some (.int l2), o3] [] (zk B im lm) = some (some (.int l2), (zk B im lm)) := ze_ret (ok := (zeNok FieldType.boolean l2 && true)) rfl 2 rfl (zeA2 c0 rfl)
theorem d_46_9 {B : zeB} {im : Nat → Nat → Int32} {lm : Nat → Nat → Int64} (l1 : Int32) (l2 : Int32) (l3 : Int32)  : zeRun 46 9 [some (.ref 170), some (.int l1), some (.int l2), some (.int l3)] [] (zk B im lm) = zeBh 46 17 [some (.ref 170), some (.int l1), some (.int l2), some (.int l3)] [.ref 171] (zeRun 45 0 [some (.int l1)] [] (zk B im lm)) := ze_call (ok := true) rfl 4 rfl rfl rfl
theorem d_46_17 {B : zeB} {im : Nat → Nat → Int32} {lm : Nat → Nat → Int64} (l1 : Int32) (l2 : Int32) (l3 : Int32) (s1 : Int32) (c0 : zeInb (s1 + 1) 360 = true) : zeRun 46 17 [some (.ref 170), some (.int l1), some (.int l2), some (.int l3)] [.int s1, .ref 171] (zk B im lm) = if (im 171 (Int32.toNatClampNeg (s1 + 1))) = 1 then zeRun 46 24 [some (.ref 170), some (.int l1), some (.int l2), some (.int l3)] [] (zk B im lm) else zeRun 46 95 [some (.ref 170), some (.int l1), some (.int l2), some (.int l3)] [] (zk B im lm) := ze_if (ok := (zeInb (s1 + 1) 360 && true)) rfl 5 rfl (zeA2 c0 rfl)
theorem d_46_24 {B : zeB} {im : Nat → Nat → Int32} {lm : Nat → Nat → Int64} (l1 : Int32) (l2 : Int32) (l3 : Int32)  : zeRun 46 24 [some (.ref 170), some (.int l1), some (.int l2), some (.int l3)] [] (zk B im lm) = if l2 = 0 then zeRun 46 28 [some (.ref 170), some (.int l1), some (.int l2), some (.int l3)] [] (zk B im lm) else zeRun 46 83 [some (.ref 170), some (.int l1), some (.int l2), some (.int l3)] [] (zk B im lm) := ze_if (ok := true) rfl 2 rfl rfl
theorem d_46_28 {B : zeB} {im : Nat → Nat → Int32} {lm : Nat → Nat → Int64} (l1 : Int32) (o2 : Option Value) (l3 : Int32)  : zeRun 46 28 [some (.ref 170), some (.int l1), o2, some (.int l3)] [] (zk B im lm) = zeBh 46 36 [some (.ref 170), some (.int l1), o2, some (.int l3)] [.ref 171] (zeRun 45 0 [some (.int l3)] [] (zk B im lm)) := ze_call (ok := true) rfl 4 rfl rfl rfl
theorem d_46_36 {B : zeB} {im : Nat → Nat → Int32} {lm : Nat → Nat → Int64} (l1 : Int32) (o2 : Option Value) (l3 : Int32) (s1 : Int32) (c0 : zeInb (s1 + 1) 360 = true) : zeRun 46 36 [some (.ref 170), some (.int l1), o2, some (.int l3)] [.int s1, .ref 171] (zk B im lm) = if 2 ≤ (im 171 (Int32.toNatClampNeg (s1 + 1))) then zeRun 46 87 [some (.ref 170), some (.int l1), o2, some (.int l3)] [] (zk B im lm) else zeRun 46 43 [some (.ref 170), some (.int l1), o2, some (.int l3)] [] (zk B im lm) := ze_if (ok := (zeInb (s1 + 1) 360 && true)) rfl 5 rfl (zeA2 c0 rfl)
theorem d_46_87 {B : zeB} {im : Nat → Nat → Int32} {lm : Nat → Nat → Int64} (l1 : Int32) (o2 : Option Value) (l3 : Int32)  : zeRun 46 87 [some (.ref 170), some (.int l1), o2, some (.int l3)] [] (zk B im lm) = zeRun 46 4 [some (.ref 170), some (.int l1), some (.int 0), some (.int (l3 + 1))] [] (zk B im lm) := ze_go (ok := true) rfl 4 rfl rfl
theorem d_46_43 {B : zeB} {im : Nat → Nat → Int32} {lm : Nat → Nat → Int64} (l1 : Int32) (o2 : Option Value) (l3 : Int32)  : zeRun 46 43 [some (.ref 170), some (.int l1), o2, some (.int l3)] [] (zk B im lm) = zeBh 46 51 [some (.ref 170), some (.int l1), o2, some (.int l3)] [.ref 171] (zeRun 45 0 [some (.int l3)] [] (zk B im lm)) := ze_call (ok := true) rfl 4 rfl rfl rfl
theorem d_46_51 {B : zeB} {im : Nat → Nat → Int32} {lm : Nat → Nat → Int64} (l1 : Int32) (o2 : Option Value) (l3 : Int32) (s1 : Int32) (c0 : zeInb (s1 + 2) 360 = true) : zeRun 46 51 [some (.ref 170), some (.int l1), o2, some (.int l3)] [.int s1, .ref 171] (zk B im lm) = zeBh 46 62 [some (.ref 170), some (.int l1), o2, some (.int l3)] [.ref 171, .int (im 171 (Int32.toNatClampNeg (s1 + 2)))] (zeRun 45 0 [some (.int l1)] [] (zk B im lm)) := ze_call (ok := (zeInb (s1 + 2) 360 && true)) rfl 7 rfl rfl (zeA2 c0 rfl)
theorem d_46_62 {B : zeB} {im : Nat → Nat → Int32} {lm : Nat → Nat → Int64} (l1 : Int32) (o2 : Option Value) (l3 : Int32) (s0 : Int32) (s2 : Int32) (c0 : zeInb (s2 + 2) 360 = true) : zeRun 46 62 [some (.ref 170), some (.int l1), o2, some (.int l3)] [.int s2, .ref 171, .int s0] (zk B im lm) = if s0 = (im 171 (Int32.toNatClampNeg (s2 + 2))) then zeRun 46 68 [some (.ref 170), some (.int l1), o2, some (.int l3)] [] (zk B im lm) else zeRun 46 87 [some (.ref 170), some (.int l1), o2, some (.int l3)] [] (zk B im lm) := ze_if (ok := (zeInb (s2 + 2) 360 && true)) rfl 4 rfl (zeA2 c0 rfl)
theorem d_46_68 {B : zeB} {im : Nat → Nat → Int32} {lm : Nat → Nat → Int64} (l1 : Int32) (o2 : Option Value) (l3 : Int32)  : zeRun 46 68 [some (.ref 170), some (.int l1), o2, some (.int l3)] [] (zk B im lm) = zeBh 46 76 [some (.ref 170), some (.int l1), o2, some (.int l3)] [.ref 171] (zeRun 45 0 [some (.int l3)] [] (zk B im lm)) := ze_call (ok := true) rfl 4 rfl rfl rfl
theorem d_46_76 {B : zeB} {im : Nat → Nat → Int32} {lm : Nat → Nat → Int64} (l1 : Int32) (o2 : Option Value) (l3 : Int32) (s1 : Int32) (c0 : zeInb (s1 + 4) 360 = true) : zeRun 46 76 [some (.ref 170), some (.int l1), o2, some (.int l3)] [.int s1, .ref 171] (zk B im lm) = if (im 171 (Int32.toNatClampNeg (s1 + 4))) = 1 then zeRun 46 83 [some (.ref 170), some (.int l1), o2, some (.int l3)] [] (zk B im lm) else zeRun 46 87 [some (.ref 170), some (.int l1), o2, some (.int l3)] [] (zk B im lm) := ze_if (ok := (zeInb (s1 + 4) 360 && true)) rfl 5 rfl (zeA2 c0 rfl)
theorem d_46_83 {B : zeB} {im : Nat → Nat → Int32} {lm : Nat → Nat → Int64} (l1 : Int32) (o2 : Option Value) (l3 : Int32)  : zeRun 46 83 [some (.ref 170), some (.int l1), o2, some (.int l3)] [] (zk B im lm) = zeRun 46 4 [some (.ref 170), some (.int l1), some (.int 1), some (.int (l3 + 1))] [] (zk B im lm) := ze_go (ok := true) rfl 5 rfl rfl
def F_46_4  : Nat → Int32 → Int32 → Int32 → zI → zJ → zR
  | 0, _, _, _, _, _ => none
  | n + 1, l1, l2, l3, im, lm =>
    if l1 ≤ l3 then
      zCk (zeNok FieldType.boolean l2) <|
      some (l2, im, lm)
    else
      zCk (zeInb (((60 + (5 * l1)) : Int32) + 1) 360) <|
      if (im 171 (Int32.toNatClampNeg (((60 + (5 * l1)) : Int32) + 1))) = 1 then
        zCk (if l2 = 0 then zeInb (((60 + (5 * l3)) : Int32) + 1) 360 else true) <|
        zCk (if l2 = 0 then if 2 ≤ (im 171 (Int32.toNatClampNeg (((60 + (5 * l3)) : Int32) + 1))) then true else zeInb (((60 + (5 * l3)) : Int32) + 2) 360 else true) <|
        zCk (if l2 = 0 then if 2 ≤ (im 171 (Int32.toNatClampNeg (((60 + (5 * l3)) : Int32) + 1))) then true else zeInb (((60 + (5 * l1)) : Int32) + 2) 360 else true) <|
        zCk (if l2 = 0 then if 2 ≤ (im 171 (Int32.toNatClampNeg (((60 + (5 * l3)) : Int32) + 1))) then true else if (im 171 (Int32.toNatClampNeg (((60 + (5 * l3)) : Int32) + 2))) = (im 171 (Int32.toNatClampNeg (((60 + (5 * l1)) : Int32) + 2))) then zeInb (((60 + (5 * l3)) : Int32) + 4) 360 else true else true) <|
        F_46_4  n l1 (if l2 = 0 then if 2 ≤ (im 171 (Int32.toNatClampNeg (((60 + (5 * l3)) : Int32) + 1))) then 0 else if (im 171 (Int32.toNatClampNeg (((60 + (5 * l3)) : Int32) + 2))) = (im 171 (Int32.toNatClampNeg (((60 + (5 * l1)) : Int32) + 2))) then if (im 171 (Int32.toNatClampNeg (((60 + (5 * l3)) : Int32) + 4))) = 1 then 1 else 0 else 0 else 1) (l3 + 1) im lm
      else
        zCk (zeNok FieldType.boolean l2) <|
        some (l2, im, lm)
theorem F_46_4_ok {B : zeB} : ∀ (n : Nat) (l1 : Int32) (l2 : Int32) (l3 : Int32)  (im : zI) (lm : zJ), zL B 1 (F_46_4  n l1 l2 l3 im lm) (zeRun 46 4 [some (.ref 170), some (.int l1), some (.int l2), some (.int l3)] [] (zk B im lm)) := by
  intro n
  induction n with
  | zero => intros; exact zL_none
  | succ n ih =>
    intro l1 l2 l3 im lm
    unfold F_46_4
    refine zL_if (d_46_4 _ _ _) (fun h => ?_) (fun h => ?_)
    · skip
      refine zL_ck fun c1 => ?_
      exact zL_ret (d_46_95 _ _ _ _ c1)
    · skip
      refine zL_bdp (e := ((60 + (5 * l1)) : Int32)) (d_46_9 _ _ _) (m_45_ok _ _ _) ?_
      refine zL_ck fun c2 => ?_
      refine zL_if (d_46_17 _ _ _ _ c2) (fun h => ?_) (fun h => ?_)
      · skip
        refine zL_ifm (d_46_24 _ _ _) (fun h => ?_) (fun h => ?_)
        · repeat rw [if_pos h]
          refine zL_bdp (e := ((60 + (5 * l3)) : Int32)) (d_46_28 _ _ _) (m_45_ok _ _ _) ?_
          refine zL_ck fun c3 => ?_
          refine zL_ifm (d_46_36 _ _ _ _ c3) (fun h => ?_) (fun h => ?_)
          · repeat rw [if_pos h]
            refine zL_eq (d_46_87 _ _ _) ?_
            refine zL_ckt ?_
            refine zL_ckt ?_
            refine zL_ckt ?_
            exact ih _ _ _ _ _
          · repeat rw [if_neg h]
            refine zL_bdp (e := ((60 + (5 * l3)) : Int32)) (d_46_43 _ _ _) (m_45_ok _ _ _) ?_
            refine zL_ck fun c4 => ?_
            refine zL_bdp (e := ((60 + (5 * l1)) : Int32)) (d_46_51 _ _ _ _ c4) (m_45_ok _ _ _) ?_
            refine zL_ck fun c5 => ?_
            refine zL_ifm (d_46_62 _ _ _ _ _ c5) (fun h => ?_) (fun h => ?_)
            · repeat rw [if_pos h]
              refine zL_bdp (e := ((60 + (5 * l3)) : Int32)) (d_46_68 _ _ _) (m_45_ok _ _ _) ?_
              refine zL_ck fun c6 => ?_
              refine zL_ifm (d_46_76 _ _ _ _ c6) (fun h => ?_) (fun h => ?_)
              · repeat rw [if_pos h]
                refine zL_eq (d_46_83 _ _ _) ?_
                exact ih _ _ _ _ _
              · repeat rw [if_neg h]
                refine zL_eq (d_46_87 _ _ _) ?_
                exact ih _ _ _ _ _
            · repeat rw [if_neg h]
              refine zL_eq (d_46_87 _ _ _) ?_
              refine zL_ckt ?_
              exact ih _ _ _ _ _
        · repeat rw [if_neg h]
          refine zL_eq (d_46_83 _ _ _) ?_
          refine zL_ckt ?_
          refine zL_ckt ?_
          refine zL_ckt ?_
          refine zL_ckt ?_
          exact ih _ _ _ _ _
      · skip
        refine zL_ck fun c7 => ?_
        exact zL_ret (d_46_95 _ _ _ _ c7)
def m_46 (l1 : Int32) (im : zI) (lm : zJ) : zR :=
    F_46_4  2000 l1 0 0 im lm
theorem m_46_ok {B : zeB} (l1 : Int32) (im : zI) (lm : zJ) : zL B 1 (m_46 l1 im lm) (zeRun 46 0 [some (.ref 170), some (.int l1), none, none] [] (zk B im lm)) := by
  unfold m_46
  refine zL_eq (d_46_0 _ _ _) ?_
  exact F_46_4_ok  _ _ _ _ _ _
