/-! pure: X8_picks, X8_pick, X3_isTold, X3_endOfLock, X3_leastCountingTick, X3_tell, X7_isQueued, X7_queueLength, X7_doBuzz, X7_buzz, X8_hasBuzzed, X8_checkBuzz, X8_counting -/
/-! X8_picks -/
theorem d_50_0 {B : zeB} {im : Nat → Nat → Int32} {lm : Nat → Nat → Int64} (l1 : Int32) (o2 : Option Value)  : zeRun 50 0 [some (.ref 170), some (.int l1), o2] [] (zk B im lm) = zeRun 50 56 [some (.ref 170), some (.int l1), some (.int 0)] [] (zk B (zeU2 (zeU2 (zeU2 (zeU2 (zeU2 im 171 10 ((im 171 10) ||| (1 <<< (l1 &&& 31)))) 171 2 l1) 171 3 (im 171 6)) 171 4 (im 171 7)) 171 14 0) lm) := ze_go (ok := true) rfl 38 rfl rfl
theorem d_50_56 {B : zeB} {im : Nat → Nat → Int32} {lm : Nat → Nat → Int64} (l1 : Int32) (l2 : Int32)  : zeRun 50 56 [some (.ref 170), some (.int l1), some (.int l2)] [] (zk B im lm) = if 24 ≤ l2 then zeRun 50 78 [some (.ref 170), some (.int l1), some (.int l2)] [] (zk B im lm) else zeRun 50 62 [some (.ref 170), some (.int l1), some (.int l2)] [] (zk B im lm) := ze_if (ok := true) rfl 3 rfl rfl
theorem d_50_78 {B : zeB} {im : Nat → Nat → Int32} {lm : Nat → Nat → Int64} (l1 : Int32) (o2 : Option Value)  : zeRun 50 78 [some (.ref 170), some (.int l1), o2] [] (zk B im lm) = if (((im 171 11) >>> (l1 &&& 31)) &&& 1) = 1 then zeRun 50 98 [some (.ref 170), some (.int l1), o2] [.int 0, .ref 171] (zk B im lm) else zeRun 50 102 [some (.ref 170), some (.int l1), o2] [.int 0, .ref 171] (zk B im lm) := ze_if (ok := true) rfl 13 rfl rfl
theorem d_50_98 {B : zeB} {im : Nat → Nat → Int32} {lm : Nat → Nat → Int64} (o0 : Option Value) (l1 : Int32) (o2 : Option Value) (s1 : Int32)  : zeRun 50 98 [o0, some (.int l1), o2] [.int s1, .ref 171] (zk B im lm) = zeRun 50 103 [o0, some (.int l1), o2] [.int 2, .int s1, .ref 171] (zk B im lm) := ze_go (ok := true) rfl 2 rfl rfl
theorem d_50_102 {B : zeB} {im : Nat → Nat → Int32} {lm : Nat → Nat → Int64} (o0 : Option Value) (l1 : Int32) (o2 : Option Value) (s1 : Int32)  : zeRun 50 102 [o0, some (.int l1), o2] [.int s1, .ref 171] (zk B im lm) = zeRun 50 103 [o0, some (.int l1), o2] [.int 1, .int s1, .ref 171] (zk B im lm) := ze_go (ok := true) rfl 1 rfl rfl
theorem d_50_62 {B : zeB} {im : Nat → Nat → Int32} {lm : Nat → Nat → Int64} (l1 : Int32) (l2 : Int32) (c0 : zeInb (30 + l2) 360 = true) : zeRun 50 62 [some (.ref 170), some (.int l1), some (.int l2)] [] (zk B im lm) = zeRun 50 56 [some (.ref 170), some (.int l1), some (.int (l2 + 1))] [] (zk B (zeU2 im 171 (Int32.toNatClampNeg (30 + l2)) 0) lm) := ze_go (ok := (zeInb (30 + l2) 360 && true)) rfl 9 rfl (zeA2 c0 rfl)
theorem d_50_103 {B : zeB} {im : Nat → Nat → Int32} {lm : Nat → Nat → Int64} (o0 : Option Value) (l1 : Int32) (o2 : Option Value) (s1 : Int32) (s2 : Int32) (c0 : zeInb s1 360 = true) : zeRun 50 103 [o0, some (.int l1), o2] [.int s2, .int s1, .ref 171] (zk B im lm) = zeBh 50 108 [o0, some (.int l1), o2] [] (zeRun 49 0 [some (.int l1)] [] (zk B (zeU2 im 171 (Int32.toNatClampNeg s1) s2) lm)) := ze_call (ok := (zeInb s1 360 && true)) rfl 3 rfl rfl (zeA2 c0 rfl)
theorem d_50_108 {B : zeB} {im : Nat → Nat → Int32} {lm : Nat → Nat → Int64} (o0 : Option Value) (o1 : Option Value) (o2 : Option Value) (s0 : Int32)  : zeRun 50 108 [o0, o1, o2] [.int s0] (zk B im lm) = some (some (.int s0), (zk B im lm)) := ze_ret (ok := true) rfl 1 rfl rfl
def J_50_103  (l1 : Int32) (s1 : Int32) (s2 : Int32) (im : zI) (lm : zJ) : zR :=
    zCk (zeInb s1 360) <|
    some (((100 * ((l1 / 5) + 1)) : Int32), (zeU2 im 171 (Int32.toNatClampNeg s1) s2), lm)
theorem J_50_103_ok {B : zeB} (l1 : Int32) (s1 : Int32) (s2 : Int32) (o0 : Option Value) (o2 : Option Value) (im : zI) (lm : zJ) : zL B 1 (J_50_103  l1 s1 s2 im lm) (zeRun 50 103 [o0, some (.int l1), o2] [.int s2, .int s1, .ref 171] (zk B im lm)) := by
  unfold J_50_103
  refine zL_ck fun c1 => ?_
  refine zL_bdp (e := ((100 * ((l1 / 5) + 1)) : Int32)) (d_50_103 _ _ _ _ _ c1) (m_49_ok _ _ _) ?_
  exact zL_ret (d_50_108 _ _ _ _)
def F_50_56  : Nat → Int32 → Int32 → zI → zJ → zR
  | 0, _, _, _, _ => none
  | n + 1, l1, l2, im, lm =>
    if 24 ≤ l2 then
      J_50_103   l1 0 (if (((im 171 11) >>> (l1 &&& 31)) &&& 1) = 1 then 2 else 1) im lm
    else
      zCk (zeInb (30 + l2) 360) <|
      F_50_56  n l1 (l2 + 1) (zeU2 im 171 (Int32.toNatClampNeg (30 + l2)) 0) lm
theorem F_50_56_ok {B : zeB} : ∀ (n : Nat) (l1 : Int32) (l2 : Int32)  (im : zI) (lm : zJ), zL B 1 (F_50_56  n l1 l2 im lm) (zeRun 50 56 [some (.ref 170), some (.int l1), some (.int l2)] [] (zk B im lm)) := by
  intro n
  induction n with
  | zero => intros; exact zL_none
  | succ n ih =>
    intro l1 l2 im lm
    unfold F_50_56
    refine zL_if (d_50_56 _ _) (fun h => ?_) (fun h => ?_)
    · skip
      refine zL_ifm (d_50_78 _ _) (fun h => ?_) (fun h => ?_)
      · repeat rw [if_pos h]
        refine zL_eq (d_50_98 _ _ _ _) ?_
        exact J_50_103_ok   _ _ _ _ _ _ _
      · repeat rw [if_neg h]
        refine zL_eq (d_50_102 _ _ _ _) ?_
        exact J_50_103_ok   _ _ _ _ _ _ _
    · skip
      refine zL_ck fun c1 => ?_
      refine zL_eq (d_50_62 _ _ c1) ?_
      exact ih _ _ _ _
def m_50 (l1 : Int32) (im : zI) (lm : zJ) : zR :=
    F_50_56  2000 l1 0 (zeU2 (zeU2 (zeU2 (zeU2 (zeU2 im 171 10 ((im 171 10) ||| (1 <<< (l1 &&& 31)))) 171 2 l1) 171 3 (im 171 6)) 171 4 (im 171 7)) 171 14 0) lm
theorem m_50_ok {B : zeB} (l1 : Int32) (im : zI) (lm : zJ) : zL B 1 (m_50 l1 im lm) (zeRun 50 0 [some (.ref 170), some (.int l1), none] [] (zk B im lm)) := by
  unfold m_50
  refine zL_eq (d_50_0 _ _) ?_
  exact F_50_56_ok  _ _ _ _ _
/-! X8_pick -/
theorem d_51_0 {B : zeB} {im : Nat → Nat → Int32} {lm : Nat → Nat → Int64} (l1 : Int32) (l2 : Int32) (o3 : Option Value)  : zeRun 51 0 [some (.ref 170), some (.int l1), some (.int l2), o3] [] (zk B im lm) = zeBh 51 6 [some (.ref 170), some (.int l1), some (.int l2), o3] [] (zeRun 48 0 [some (.ref 170), some (.int l1), some (.int l2), none] [] (zk B im lm)) := ze_call (ok := true) rfl 4 rfl rfl rfl
theorem d_51_6 {B : zeB} {im : Nat → Nat → Int32} {lm : Nat → Nat → Int64} (o1 : Option Value) (l2 : Int32) (o3 : Option Value) (s0 : Int32)  : zeRun 51 6 [some (.ref 170), o1, some (.int l2), o3] [.int s0] (zk B im lm) = if 0 ≤ s0 then zeRun 51 13 [some (.ref 170), o1, some (.int l2), some (.int s0)] [] (zk B im lm) else zeRun 51 11 [some (.ref 170), o1, some (.int l2), some (.int s0)] [] (zk B im lm) := ze_if (ok := true) rfl 3 rfl rfl
theorem d_51_13 {B : zeB} {im : Nat → Nat → Int32} {lm : Nat → Nat → Int64} (o1 : Option Value) (l2 : Int32) (o3 : Option Value)  : zeRun 51 13 [some (.ref 170), o1, some (.int l2), o3] [] (zk B im lm) = zeBh 51 17 [some (.ref 170), o1, some (.int l2), o3] [] (zeRun 25 0 [some (.ref 170), none] [] (zk B im lm)) := ze_call (ok := true) rfl 2 rfl rfl rfl
theorem d_51_17 {B : zeB} {im : Nat → Nat → Int32} {lm : Nat → Nat → Int64} (o1 : Option Value) (l2 : Int32) (o3 : Option Value)  : zeRun 51 17 [some (.ref 170), o1, some (.int l2), o3] [] (zk B im lm) = zeBh 51 22 [some (.ref 170), o1, some (.int l2), o3] [] (zeRun 50 0 [some (.ref 170), some (.int l2), none] [] (zk B im lm)) := ze_call (ok := true) rfl 3 rfl rfl rfl
theorem d_51_22 {B : zeB} {im : Nat → Nat → Int32} {lm : Nat → Nat → Int64} (o0 : Option Value) (o1 : Option Value) (o2 : Option Value) (o3 : Option Value) (s0 : Int32)  : zeRun 51 22 [o0, o1, o2, o3] [.int s0] (zk B im lm) = some (some (.int s0), (zk B im lm)) := ze_ret (ok := true) rfl 1 rfl rfl
theorem d_51_11 {B : zeB} {im : Nat → Nat → Int32} {lm : Nat → Nat → Int64} (o0 : Option Value) (o1 : Option Value) (o2 : Option Value) (l3 : Int32)  : zeRun 51 11 [o0, o1, o2, some (.int l3)] [] (zk B im lm) = some (some (.int l3), (zk B im lm)) := ze_ret (ok := true) rfl 2 rfl rfl
def m_51 (l1 : Int32) (l2 : Int32) (im : zI) (lm : zJ) : zR :=
    zBd (m_48 l1 l2 im lm) fun v1 im1 lm1 =>
    if 0 ≤ v1 then
      zBd (m_25  im1 lm1) fun _ im2 lm2 =>
      zBd (m_50 l2 im2 lm2) fun v3 im3 lm3 =>
      some (v3, im3, lm3)
    else
      some (v1, im1, lm1)
theorem m_51_ok {B : zeB} (l1 : Int32) (l2 : Int32) (im : zI) (lm : zJ) : zL B 1 (m_51 l1 l2 im lm) (zeRun 51 0 [some (.ref 170), some (.int l1), some (.int l2), none] [] (zk B im lm)) := by
  unfold m_51
  refine zL_bd (d_51_0 _ _ _) (m_48_ok _ _ _ _) fun v1 im1 lm1 => ?_
  refine zL_if (d_51_6 _ _ _ _) (fun h => ?_) (fun h => ?_)
  · skip
    refine zL_bdv (d_51_13 _ _ _) (m_25_ok _ _) fun _ im2 lm2 => ?_
    refine zL_bd (d_51_17 _ _ _) (m_50_ok _ _ _) fun v3 im3 lm3 => ?_
    exact zL_ret (d_51_22 _ _ _ _ _)
  · skip
    exact zL_ret (d_51_11 _ _ _ _)
/-! X3_isTold -/
theorem d_52_0 {B : zeB} {im : Nat → Nat → Int32} {lm : Nat → Nat → Int64} (l1 : Int32) (l2 : Int32) (o3 : Option Value) (o4 : Option Value)  : zeRun 52 0 [some (.ref 19), some (.int l1), some (.int l2), o3, o4] [] (zk B im lm) = if 64 ≤ l2 then zeRun 52 15 [some (.ref 19), some (.int l1), some (.int l2), o3, o4] [] (zk B im lm) else zeRun 52 6 [some (.ref 19), some (.int l1), some (.int l2), o3, o4] [] (zk B im lm) := ze_if (ok := true) rfl 3 rfl rfl
theorem d_52_15 {B : zeB} {im : Nat → Nat → Int32} {lm : Nat → Nat → Int64} (l1 : Int32) (l2 : Int32) (o3 : Option Value) (o4 : Option Value) (c0 : zeInb l1 6 = true) : zeRun 52 15 [some (.ref 19), some (.int l1), some (.int l2), o3, o4] [] (zk B im lm) = zeRun 52 21 [some (.ref 19), some (.int l1), some (.int l2), o3, o4] [.long (lm 22 (Int32.toNatClampNeg l1))] (zk B im lm) := ze_go (ok := (zeInb l1 6 && true)) rfl 4 rfl (zeA2 c0 rfl)
theorem d_52_6 {B : zeB} {im : Nat → Nat → Int32} {lm : Nat → Nat → Int64} (l1 : Int32) (l2 : Int32) (o3 : Option Value) (o4 : Option Value) (c0 : zeInb l1 6 = true) : zeRun 52 6 [some (.ref 19), some (.int l1), some (.int l2), o3, o4] [] (zk B im lm) = zeRun 52 21 [some (.ref 19), some (.int l1), some (.int l2), o3, o4] [.long (lm 21 (Int32.toNatClampNeg l1))] (zk B im lm) := ze_go (ok := (zeInb l1 6 && true)) rfl 5 rfl (zeA2 c0 rfl)
theorem d_52_21 {B : zeB} {im : Nat → Nat → Int32} {lm : Nat → Nat → Int64} (o0 : Option Value) (o1 : Option Value) (l2 : Int32) (o3 : Option Value) (o4 : Option Value) (s0 : Int64)  : zeRun 52 21 [o0, o1, some (.int l2), o3, o4] [.long s0] (zk B im lm) = if (lg_cmp ((zflshr s0 (zfirem l2 64)) &&& 1) 1) = 0 then zeRun 52 35 [o0, o1, some (.int l2), some (.long s0), none] [] (zk B im lm) else zeRun 52 39 [o0, o1, some (.int l2), some (.long s0), none] [] (zk B im lm) := ze_if (ok := true) rfl 11 rfl rfl
theorem d_52_35 {B : zeB} {im : Nat → Nat → Int32} {lm : Nat → Nat → Int64} (o0 : Option Value) (o1 : Option Value) (o2 : Option Value) (o3 : Option Value) (o4 : Option Value)  : zeRun 52 35 [o0, o1, o2, o3, o4] [] (zk B im lm) = some (some (.int 1), (zk B im lm)) := ze_ret (ok := true) rfl 3 rfl rfl
theorem d_52_39 {B : zeB} {im : Nat → Nat → Int32} {lm : Nat → Nat → Int64} (o0 : Option Value) (o1 : Option Value) (o2 : Option Value) (o3 : Option Value) (o4 : Option Value)  : zeRun 52 39 [o0, o1, o2, o3, o4] [] (zk B im lm) = some (some (.int 0), (zk B im lm)) := ze_ret (ok := true) rfl 2 rfl rfl
def J_52_21  (l2 : Int32) (s0 : Int64) (im : zI) (lm : zJ) : zR :=
    some (if (lg_cmp ((zflshr s0 (zfirem l2 64)) &&& 1) 1) = 0 then 1 else 0, im, lm)
theorem J_52_21_ok {B : zeB} (l2 : Int32) (s0 : Int64) (o0 : Option Value) (o1 : Option Value) (o3 : Option Value) (o4 : Option Value) (im : zI) (lm : zJ) : zL B 1 (J_52_21  l2 s0 im lm) (zeRun 52 21 [o0, o1, some (.int l2), o3, o4] [.long s0] (zk B im lm)) := by
  unfold J_52_21
  refine zL_ifm (d_52_21 _ _ _ _ _ _) (fun h => ?_) (fun h => ?_)
  · repeat rw [if_pos h]
    exact zL_ret (d_52_35 _ _ _ _ _)
  · repeat rw [if_neg h]
    exact zL_ret (d_52_39 _ _ _ _ _)
def m_52 (l1 : Int32) (l2 : Int32) (im : zI) (lm : zJ) : zR :=
    zCk (zeInb l1 6) <|
    J_52_21   l2 (if 64 ≤ l2 then (lm 22 (Int32.toNatClampNeg l1)) else (lm 21 (Int32.toNatClampNeg l1))) im lm
theorem m_52_ok {B : zeB} (l1 : Int32) (l2 : Int32) (im : zI) (lm : zJ) : zL B 1 (m_52 l1 l2 im lm) (zeRun 52 0 [some (.ref 19), some (.int l1), some (.int l2), none, none] [] (zk B im lm)) := by
  unfold m_52
  refine zL_ifm (d_52_0 _ _ _ _) (fun h => ?_) (fun h => ?_)
  · repeat rw [if_pos h]
    refine zL_ck fun c1 => ?_
    refine zL_eq (d_52_15 _ _ _ _ c1) ?_
    exact J_52_21_ok   _ _ _ _ _ _ _ _
  · repeat rw [if_neg h]
    refine zL_ck fun c2 => ?_
    refine zL_eq (d_52_6 _ _ _ _ c2) ?_
    exact J_52_21_ok   _ _ _ _ _ _ _ _
/-! X3_endOfLock -/
theorem d_53_0 {B : zeB} {im : Nat → Nat → Int32} {lm : Nat → Nat → Int64} (l1 : Int32) (o2 : Option Value) (o3 : Option Value)  : zeRun 53 0 [some (.ref 19), some (.int l1), o2, o3] [] (zk B im lm) = zeRun 53 7 [some (.ref 19), some (.int l1), some (.int (im 19 1)), some (.int 0)] [] (zk B im lm) := ze_go (ok := true) rfl 5 rfl rfl
theorem d_53_7 {B : zeB} {im : Nat → Nat → Int32} {lm : Nat → Nat → Int64} (l1 : Int32) (l2 : Int32) (l3 : Int32)  : zeRun 53 7 [some (.ref 19), some (.int l1), some (.int l2), some (.int l3)] [] (zk B im lm) = if (im 19 1) ≤ l3 then zeRun 53 41 [some (.ref 19), some (.int l1), some (.int l2), some (.int l3)] [] (zk B im lm) else zeRun 53 15 [some (.ref 19), some (.int l1), some (.int l2), some (.int l3)] [] (zk B im lm) := ze_if (ok := true) rfl 4 rfl rfl
theorem d_53_41 {B : zeB} {im : Nat → Nat → Int32} {lm : Nat → Nat → Int64} (o0 : Option Value) (o1 : Option Value) (l2 : Int32) (o3 : Option Value)  : zeRun 53 41 [o0, o1, some (.int l2), o3] [] (zk B im lm) = some (some (.int l2), (zk B im lm)) := ze_ret (ok := true) rfl 2 rfl rfl
theorem d_53_15 {B : zeB} {im : Nat → Nat → Int32} {lm : Nat → Nat → Int64} (l1 : Int32) (l2 : Int32) (l3 : Int32)  : zeRun 53 15 [some (.ref 19), some (.int l1), some (.int l2), some (.int l3)] [] (zk B im lm) = zeBh 53 21 [some (.ref 19), some (.int l1), some (.int l2), some (.int l3)] [] (zeRun 52 0 [some (.ref 19), some (.int l1), some (.int l3), none, none] [] (zk B im lm)) := ze_call (ok := true) rfl 4 rfl rfl rfl
theorem d_53_21 {B : zeB} {im : Nat → Nat → Int32} {lm : Nat → Nat → Int64} (l1 : Int32) (l2 : Int32) (l3 : Int32) (s0 : Int32)  : zeRun 53 21 [some (.ref 19), some (.int l1), some (.int l2), some (.int l3)] [.int s0] (zk B im lm) = if s0 = 0 then zeRun 53 35 [some (.ref 19), some (.int l1), some (.int l2), some (.int l3)] [] (zk B im lm) else zeRun 53 24 [some (.ref 19), some (.int l1), some (.int l2), some (.int l3)] [] (zk B im lm) := ze_if (ok := true) rfl 1 rfl rfl
theorem d_53_35 {B : zeB} {im : Nat → Nat → Int32} {lm : Nat → Nat → Int64} (l1 : Int32) (l2 : Int32) (l3 : Int32)  : zeRun 53 35 [some (.ref 19), some (.int l1), some (.int l2), some (.int l3)] [] (zk B im lm) = zeRun 53 7 [some (.ref 19), some (.int l1), some (.int l2), some (.int (l3 + 1))] [] (zk B im lm) := ze_go (ok := true) rfl 2 rfl rfl
theorem d_53_24 {B : zeB} {im : Nat → Nat → Int32} {lm : Nat → Nat → Int64} (l1 : Int32) (l2 : Int32) (l3 : Int32)  : zeRun 53 24 [some (.ref 19), some (.int l1), some (.int l2), some (.int l3)] [] (zk B im lm) = zeRun 53 7 [some (.ref 19), some (.int l1), some (.int (if l2 < (l3 + (im 19 2)) then (l3 + (im 19 2)) else l2)), some (.int (l3 + 1))] [] (zk B im lm) := ze_go (ok := true) rfl 9 rfl rfl
def F_53_7  : Nat → Int32 → Int32 → Int32 → zI → zJ → zR
  | 0, _, _, _, _, _ => none
  | n + 1, l1, l2, l3, im, lm =>
    if (im 19 1) ≤ l3 then
      some (l2, im, lm)
    else
      zBd (m_52 l1 l3 im lm) fun v1 im1 lm1 =>
      F_53_7  n l1 (if v1 = 0 then l2 else (if l2 < (l3 + (im1 19 2)) then (l3 + (im1 19 2)) else l2)) (l3 + 1) im1 lm1
theorem F_53_7_ok {B : zeB} : ∀ (n : Nat) (l1 : Int32) (l2 : Int32) (l3 : Int32)  (im : zI) (lm : zJ), zL B 1 (F_53_7  n l1 l2 l3 im lm) (zeRun 53 7 [some (.ref 19), some (.int l1), some (.int l2), some (.int l3)] [] (zk B im lm)) := by
  intro n
  induction n with
  | zero => intros; exact zL_none
  | succ n ih =>
    intro l1 l2 l3 im lm
    unfold F_53_7
    refine zL_if (d_53_7 _ _ _) (fun h => ?_) (fun h => ?_)
    · skip
      exact zL_ret (d_53_41 _ _ _ _)
    · skip
      refine zL_bd (d_53_15 _ _ _) (m_52_ok _ _ _ _) fun v1 im1 lm1 => ?_
      refine zL_ifm (d_53_21 _ _ _ _) (fun h => ?_) (fun h => ?_)
      · repeat rw [if_pos h]
        refine zL_eq (d_53_35 _ _ _) ?_
        exact ih _ _ _ _ _
      · repeat rw [if_neg h]
        refine zL_eq (d_53_24 _ _ _) ?_
        exact ih _ _ _ _ _
def m_53 (l1 : Int32) (im : zI) (lm : zJ) : zR :=
    F_53_7  2000 l1 (im 19 1) 0 im lm
theorem m_53_ok {B : zeB} (l1 : Int32) (im : zI) (lm : zJ) : zL B 1 (m_53 l1 im lm) (zeRun 53 0 [some (.ref 19), some (.int l1), none, none] [] (zk B im lm)) := by
  unfold m_53
  refine zL_eq (d_53_0 _ _ _) ?_
  exact F_53_7_ok  _ _ _ _ _ _
/-! X3_leastCountingTick -/
theorem d_54_0 {B : zeB} {im : Nat → Nat → Int32} {lm : Nat → Nat → Int64} (l1 : Int32) (o2 : Option Value)  : zeRun 54 0 [some (.ref 19), some (.int l1), o2] [] (zk B im lm) = zeBh 54 5 [some (.ref 19), some (.int l1), o2] [] (zeRun 53 0 [some (.ref 19), some (.int l1), none, none] [] (zk B im lm)) := ze_call (ok := true) rfl 3 rfl rfl rfl
theorem d_54_5 {B : zeB} {im : Nat → Nat → Int32} {lm : Nat → Nat → Int64} (l1 : Int32) (o2 : Option Value) (s0 : Int32)  : zeRun 54 5 [some (.ref 19), some (.int l1), o2] [.int s0] (zk B im lm) = zeRun 54 6 [some (.ref 19), some (.int l1), some (.int s0)] [] (zk B im lm) := ze_go (ok := true) rfl 1 rfl rfl
theorem d_54_6 {B : zeB} {im : Nat → Nat → Int32} {lm : Nat → Nat → Int64} (l1 : Int32) (l2 : Int32)  : zeRun 54 6 [some (.ref 19), some (.int l1), some (.int l2)] [] (zk B im lm) = if 100 ≤ l2 then zeRun 54 29 [some (.ref 19), some (.int l1), some (.int l2)] [] (zk B im lm) else zeRun 54 12 [some (.ref 19), some (.int l1), some (.int l2)] [] (zk B im lm) := ze_if (ok := true) rfl 3 rfl rfl
theorem d_54_29 {B : zeB} {im : Nat → Nat → Int32} {lm : Nat → Nat → Int64} (o0 : Option Value) (o1 : Option Value) (o2 : Option Value)  : zeRun 54 29 [o0, o1, o2] [] (zk B im lm) = some (some (.int (-10000005)), (zk B im lm)) := ze_ret (ok := true) rfl 2 rfl rfl
theorem d_54_12 {B : zeB} {im : Nat → Nat → Int32} {lm : Nat → Nat → Int64} (l1 : Int32) (l2 : Int32)  : zeRun 54 12 [some (.ref 19), some (.int l1), some (.int l2)] [] (zk B im lm) = zeBh 54 18 [some (.ref 19), some (.int l1), some (.int l2)] [] (zeRun 52 0 [some (.ref 19), some (.int l1), some (.int l2), none, none] [] (zk B im lm)) := ze_call (ok := true) rfl 4 rfl rfl rfl
theorem d_54_18 {B : zeB} {im : Nat → Nat → Int32} {lm : Nat → Nat → Int64} (l1 : Int32) (l2 : Int32) (s0 : Int32)  : zeRun 54 18 [some (.ref 19), some (.int l1), some (.int l2)] [.int s0] (zk B im lm) = if s0 = 0 then zeRun 54 23 [some (.ref 19), some (.int l1), some (.int l2)] [] (zk B im lm) else zeRun 54 21 [some (.ref 19), some (.int l1), some (.int l2)] [] (zk B im lm) := ze_if (ok := true) rfl 1 rfl rfl
theorem d_54_23 {B : zeB} {im : Nat → Nat → Int32} {lm : Nat → Nat → Int64} (l1 : Int32) (l2 : Int32)  : zeRun 54 23 [some (.ref 19), some (.int l1), some (.int l2)] [] (zk B im lm) = zeRun 54 6 [some (.ref 19), some (.int l1), some (.int (l2 + 1))] [] (zk B im lm) := ze_go (ok := true) rfl 2 rfl rfl
theorem d_54_21 {B : zeB} {im : Nat → Nat → Int32} {lm : Nat → Nat → Int64} (o0 : Option Value) (o1 : Option Value) (l2 : Int32)  : zeRun 54 21 [o0, o1, some (.int l2)] [] (zk B im lm) = some (some (.int l2), (zk B im lm)) := ze_ret (ok := true) rfl 2 rfl rfl
def F_54_6  : Nat → Int32 → Int32 → zI → zJ → zR
  | 0, _, _, _, _ => none
  | n + 1, l1, l2, im, lm =>
    if 100 ≤ l2 then
      some ((-10000005), im, lm)
    else
      zBd (m_52 l1 l2 im lm) fun v1 im1 lm1 =>
      if v1 = 0 then
        F_54_6  n l1 (l2 + 1) im1 lm1
      else
        some (l2, im1, lm1)
theorem F_54_6_ok {B : zeB} : ∀ (n : Nat) (l1 : Int32) (l2 : Int32)  (im : zI) (lm : zJ), zL B 1 (F_54_6  n l1 l2 im lm) (zeRun 54 6 [some (.ref 19), some (.int l1), some (.int l2)] [] (zk B im lm)) := by
  intro n
  induction n with
  | zero => intros; exact zL_none
  | succ n ih =>
    intro l1 l2 im lm
    unfold F_54_6
    refine zL_if (d_54_6 _ _) (fun h => ?_) (fun h => ?_)
    · skip
      exact zL_ret (d_54_29 _ _ _)
    · skip
      refine zL_bd (d_54_12 _ _) (m_52_ok _ _ _ _) fun v1 im1 lm1 => ?_
      refine zL_if (d_54_18 _ _ _) (fun h => ?_) (fun h => ?_)
      · skip
        refine zL_eq (d_54_23 _ _) ?_
        exact ih _ _ _ _
      · skip
        exact zL_ret (d_54_21 _ _ _)
def m_54 (l1 : Int32) (im : zI) (lm : zJ) : zR :=
    zBd (m_53 l1 im lm) fun v1 im1 lm1 =>
    F_54_6  2000 l1 v1 im1 lm1
theorem m_54_ok {B : zeB} (l1 : Int32) (im : zI) (lm : zJ) : zL B 1 (m_54 l1 im lm) (zeRun 54 0 [some (.ref 19), some (.int l1), none] [] (zk B im lm)) := by
  unfold m_54
  refine zL_bd (d_54_0 _ _) (m_53_ok _ _ _) fun v1 im1 lm1 => ?_
  refine zL_eq (d_54_5 _ _ _) ?_
  exact F_54_6_ok  _ _ _ _ _
/-! X3_tell -/
theorem d_55_0 {B : zeB} {im : Nat → Nat → Int32} {lm : Nat → Nat → Int64} (l1 : Int32) (l2 : Int32)  : zeRun 55 0 [some (.ref 19), some (.int l1), some (.int l2)] [] (zk B im lm) = if 64 ≤ l2 then zeRun 55 21 [some (.ref 19), some (.int l1), some (.int l2)] [] (zk B im lm) else zeRun 55 6 [some (.ref 19), some (.int l1), some (.int l2)] [] (zk B im lm) := ze_if (ok := true) rfl 3 rfl rfl
theorem d_55_21 {B : zeB} {im : Nat → Nat → Int32} {lm : Nat → Nat → Int64} (l1 : Int32) (l2 : Int32) (c0 : zeInb l1 6 = true) (c1 : zeInb l1 6 = true) : zeRun 55 21 [some (.ref 19), some (.int l1), some (.int l2)] [] (zk B im lm) = zeRun 55 36 [some (.ref 19), some (.int l1), some (.int l2)] [] (zk B im (zeU2 lm 22 (Int32.toNatClampNeg l1) ((lm 22 (Int32.toNatClampNeg l1)) ||| (zflshl 1 (l2 - 64))))) := ze_go (ok := (zeInb l1 6 && (zeInb l1 6 && true))) rfl 12 rfl (zeA2 c1 (zeA2 c0 rfl))
theorem d_55_6 {B : zeB} {im : Nat → Nat → Int32} {lm : Nat → Nat → Int64} (l1 : Int32) (l2 : Int32) (c0 : zeInb l1 6 = true) (c1 : zeInb l1 6 = true) : zeRun 55 6 [some (.ref 19), some (.int l1), some (.int l2)] [] (zk B im lm) = zeRun 55 36 [some (.ref 19), some (.int l1), some (.int l2)] [] (zk B im (zeU2 lm 21 (Int32.toNatClampNeg l1) ((lm 21 (Int32.toNatClampNeg l1)) ||| (zflshl 1 l2)))) := ze_go (ok := (zeInb l1 6 && (zeInb l1 6 && true))) rfl 11 rfl (zeA2 c1 (zeA2 c0 rfl))
theorem d_55_36 {B : zeB} {im : Nat → Nat → Int32} {lm : Nat → Nat → Int64} (l1 : Int32) (o2 : Option Value)  : zeRun 55 36 [some (.ref 19), some (.int l1), o2] [] (zk B im lm) = zeBh 55 46 [some (.ref 19), some (.int l1), o2] [.int l1, .ref 20] (zeRun 54 0 [some (.ref 19), some (.int l1), none] [] (zk B im lm)) := ze_call (ok := true) rfl 6 rfl rfl rfl
theorem d_55_46 {B : zeB} {im : Nat → Nat → Int32} {lm : Nat → Nat → Int64} (o0 : Option Value) (o1 : Option Value) (o2 : Option Value) (s1 : Int32) (s2 : Int32) (c0 : zeInb s1 6 = true) : zeRun 55 46 [o0, o1, o2] [.int s2, .int s1, .ref 20] (zk B im lm) = some (none, (zk B (zeU2 im 20 (Int32.toNatClampNeg s1) s2) lm)) := ze_ret (ok := (zeInb s1 6 && true)) rfl 2 rfl (zeA2 c0 rfl)
def J_55_36  (l1 : Int32) (im : zI) (lm : zJ) : zR :=
    zBd (m_54 l1 im lm) fun v1 im1 lm1 =>
    zCk (zeInb l1 6) <|
    some (0, (zeU2 im1 20 (Int32.toNatClampNeg l1) v1), lm1)
theorem J_55_36_ok {B : zeB} (l1 : Int32) (o2 : Option Value) (im : zI) (lm : zJ) : zL B 0 (J_55_36  l1 im lm) (zeRun 55 36 [some (.ref 19), some (.int l1), o2] [] (zk B im lm)) := by
  unfold J_55_36
  refine zL_bd (d_55_36 _ _) (m_54_ok _ _ _) fun v1 im1 lm1 => ?_
  refine zL_ck fun c1 => ?_
  exact zL_retv (d_55_46 _ _ _ _ _ c1)
def m_55 (l1 : Int32) (l2 : Int32) (im : zI) (lm : zJ) : zR :=
    zCk (zeInb l1 6) <|
    J_55_36   l1 im (if 64 ≤ l2 then (zeU2 lm 22 (Int32.toNatClampNeg l1) ((lm 22 (Int32.toNatClampNeg l1)) ||| (zflshl 1 (l2 - 64)))) else (zeU2 lm 21 (Int32.toNatClampNeg l1) ((lm 21 (Int32.toNatClampNeg l1)) ||| (zflshl 1 l2))))
theorem m_55_ok {B : zeB} (l1 : Int32) (l2 : Int32) (im : zI) (lm : zJ) : zL B 0 (m_55 l1 l2 im lm) (zeRun 55 0 [some (.ref 19), some (.int l1), some (.int l2)] [] (zk B im lm)) := by
  unfold m_55
  refine zL_ifm (d_55_0 _ _) (fun h => ?_) (fun h => ?_)
  · repeat rw [if_pos h]
    refine zL_ck fun c1 => ?_
    refine zL_eq (d_55_21 _ _ c1 c1) ?_
    exact J_55_36_ok   _ _ _ _
  · repeat rw [if_neg h]
    refine zL_ck fun c2 => ?_
    refine zL_eq (d_55_6 _ _ c2 c2) ?_
    exact J_55_36_ok   _ _ _ _
/-! X7_isQueued -/
theorem d_56_0 {B : zeB} {im : Nat → Nat → Int32} {lm : Nat → Nat → Int64} (l1 : Int32)  : zeRun 56 0 [some (.ref 16), some (.int l1)] [] (zk B im lm) = if (im 17 0) = 1 then zeRun 56 11 [some (.ref 16), some (.int l1)] [] (zk B im lm) else zeRun 56 49 [some (.ref 16), some (.int l1)] [] (zk B im lm) := ze_if (ok := true) rfl 5 rfl rfl
theorem d_56_11 {B : zeB} {im : Nat → Nat → Int32} {lm : Nat → Nat → Int64} (l1 : Int32) (c0 : zeInb l1 6 = true) : zeRun 56 11 [some (.ref 16), some (.int l1)] [] (zk B im lm) = if (im 20 (Int32.toNatClampNeg l1)) = (-10000005) then zeRun 56 49 [some (.ref 16), some (.int l1)] [] (zk B im lm) else zeRun 56 28 [some (.ref 16), some (.int l1)] [] (zk B im lm) := ze_if (ok := (zeInb l1 6 && true)) rfl 8 rfl (zeA2 c0 rfl)
theorem d_56_49 {B : zeB} {im : Nat → Nat → Int32} {lm : Nat → Nat → Int64} (o0 : Option Value) (o1 : Option Value)  : zeRun 56 49 [o0, o1] [] (zk B im lm) = some (some (.int 0), (zk B im lm)) := ze_ret (ok := true) rfl 2 rfl rfl
theorem d_56_28 {B : zeB} {im : Nat → Nat → Int32} {lm : Nat → Nat → Int64} (l1 : Int32)  : zeRun 56 28 [some (.ref 16), some (.int l1)] [] (zk B im lm) = zeBh 56 42 [some (.ref 16), some (.int l1)] [] (zeRun 28 0 [some (.int (im 19 4)), some (.int l1)] [] (zk B im lm)) := ze_call (ok := true) rfl 6 rfl rfl rfl
theorem d_56_42 {B : zeB} {im : Nat → Nat → Int32} {lm : Nat → Nat → Int64} (o0 : Option Value) (o1 : Option Value) (s0 : Int32)  : zeRun 56 42 [o0, o1] [.int s0] (zk B im lm) = if s0 = 0 then zeRun 56 45 [o0, o1] [] (zk B im lm) else zeRun 56 49 [o0, o1] [] (zk B im lm) := ze_if (ok := true) rfl 1 rfl rfl
theorem d_56_45 {B : zeB} {im : Nat → Nat → Int32} {lm : Nat → Nat → Int64} (o0 : Option Value) (o1 : Option Value)  : zeRun 56 45 [o0, o1] [] (zk B im lm) = some (some (.int 1), (zk B im lm)) := ze_ret (ok := true) rfl 3 rfl rfl
def m_56 (l1 : Int32) (im : zI) (lm : zJ) : zR :=
    zCk (if (im 17 0) = 1 then zeInb l1 6 else true) <|
    some (if (im 17 0) = 1 then if (im 20 (Int32.toNatClampNeg l1)) = (-10000005) then 0 else if ((((im 19 4) >>> (l1 &&& 31)) &&& 1) : Int32) = 0 then 1 else 0 else 0, im, lm)
theorem m_56_ok {B : zeB} (l1 : Int32) (im : zI) (lm : zJ) : zL B 1 (m_56 l1 im lm) (zeRun 56 0 [some (.ref 16), some (.int l1)] [] (zk B im lm)) := by
  unfold m_56
  refine zL_ifm (d_56_0 _) (fun h => ?_) (fun h => ?_)
  · repeat rw [if_pos h]
    refine zL_ck fun c1 => ?_
    refine zL_ifm (d_56_11 _ c1) (fun h => ?_) (fun h => ?_)
    · repeat rw [if_pos h]
      exact zL_ret (d_56_49 _ _)
    · repeat rw [if_neg h]
      refine zL_bdp (e := ((((im 19 4) >>> (l1 &&& 31)) &&& 1) : Int32)) (d_56_28 _) (m_28_ok _ _ _ _) ?_
      refine zL_ifm (d_56_42 _ _ _) (fun h => ?_) (fun h => ?_)
      · repeat rw [if_pos h]
        exact zL_ret (d_56_45 _ _)
      · repeat rw [if_neg h]
        exact zL_ret (d_56_49 _ _)
  · repeat rw [if_neg h]
    refine zL_ckt ?_
    exact zL_ret (d_56_49 _ _)
/-! X7_queueLength -/
theorem d_57_0 {B : zeB} {im : Nat → Nat → Int32} {lm : Nat → Nat → Int64} (o1 : Option Value) (o2 : Option Value)  : zeRun 57 0 [some (.ref 16), o1, o2] [] (zk B im lm) = zeRun 57 4 [some (.ref 16), some (.int 0), some (.int 0)] [] (zk B im lm) := ze_go (ok := true) rfl 4 rfl rfl
theorem d_57_4 {B : zeB} {im : Nat → Nat → Int32} {lm : Nat → Nat → Int64} (l1 : Int32) (l2 : Int32)  : zeRun 57 4 [some (.ref 16), some (.int l1), some (.int l2)] [] (zk B im lm) = if (im 17 1) ≤ l2 then zeRun 57 32 [some (.ref 16), some (.int l1), some (.int l2)] [] (zk B im lm) else zeRun 57 15 [some (.ref 16), some (.int l1), some (.int l2)] [] (zk B im lm) := ze_if (ok := true) rfl 5 rfl rfl
theorem d_57_32 {B : zeB} {im : Nat → Nat → Int32} {lm : Nat → Nat → Int64} (o0 : Option Value) (l1 : Int32) (o2 : Option Value)  : zeRun 57 32 [o0, some (.int l1), o2] [] (zk B im lm) = some (some (.int l1), (zk B im lm)) := ze_ret (ok := true) rfl 2 rfl rfl
theorem d_57_15 {B : zeB} {im : Nat → Nat → Int32} {lm : Nat → Nat → Int64} (l1 : Int32) (l2 : Int32)  : zeRun 57 15 [some (.ref 16), some (.int l1), some (.int l2)] [] (zk B im lm) = zeBh 57 20 [some (.ref 16), some (.int l1), some (.int l2)] [] (zeRun 56 0 [some (.ref 16), some (.int l2)] [] (zk B im lm)) := ze_call (ok := true) rfl 3 rfl rfl rfl
theorem d_57_20 {B : zeB} {im : Nat → Nat → Int32} {lm : Nat → Nat → Int64} (l1 : Int32) (l2 : Int32) (s0 : Int32)  : zeRun 57 20 [some (.ref 16), some (.int l1), some (.int l2)] [.int s0] (zk B im lm) = if s0 = 0 then zeRun 57 26 [some (.ref 16), some (.int l1), some (.int l2)] [] (zk B im lm) else zeRun 57 23 [some (.ref 16), some (.int l1), some (.int l2)] [] (zk B im lm) := ze_if (ok := true) rfl 1 rfl rfl
theorem d_57_26 {B : zeB} {im : Nat → Nat → Int32} {lm : Nat → Nat → Int64} (l1 : Int32) (l2 : Int32)  : zeRun 57 26 [some (.ref 16), some (.int l1), some (.int l2)] [] (zk B im lm) = zeRun 57 4 [some (.ref 16), some (.int l1), some (.int (l2 + 1))] [] (zk B im lm) := ze_go (ok := true) rfl 2 rfl rfl
theorem d_57_23 {B : zeB} {im : Nat → Nat → Int32} {lm : Nat → Nat → Int64} (l1 : Int32) (l2 : Int32)  : zeRun 57 23 [some (.ref 16), some (.int l1), some (.int l2)] [] (zk B im lm) = zeRun 57 4 [some (.ref 16), some (.int (l1 + 1)), some (.int (l2 + 1))] [] (zk B im lm) := ze_go (ok := true) rfl 3 rfl rfl
def F_57_4  : Nat → Int32 → Int32 → zI → zJ → zR
  | 0, _, _, _, _ => none
  | n + 1, l1, l2, im, lm =>
    if (im 17 1) ≤ l2 then
      some (l1, im, lm)
    else
      zBd (m_56 l2 im lm) fun v1 im1 lm1 =>
      F_57_4  n (if v1 = 0 then l1 else (l1 + 1)) (l2 + 1) im1 lm1
theorem F_57_4_ok {B : zeB} : ∀ (n : Nat) (l1 : Int32) (l2 : Int32)  (im : zI) (lm : zJ), zL B 1 (F_57_4  n l1 l2 im lm) (zeRun 57 4 [some (.ref 16), some (.int l1), some (.int l2)] [] (zk B im lm)) := by
  intro n
  induction n with
  | zero => intros; exact zL_none
  | succ n ih =>
    intro l1 l2 im lm
    unfold F_57_4
    refine zL_if (d_57_4 _ _) (fun h => ?_) (fun h => ?_)
    · skip
      exact zL_ret (d_57_32 _ _ _)
    · skip
      refine zL_bd (d_57_15 _ _) (m_56_ok _ _ _) fun v1 im1 lm1 => ?_
      refine zL_ifm (d_57_20 _ _ _) (fun h => ?_) (fun h => ?_)
      · repeat rw [if_pos h]
        refine zL_eq (d_57_26 _ _) ?_
        exact ih _ _ _ _
      · repeat rw [if_neg h]
        refine zL_eq (d_57_23 _ _) ?_
        exact ih _ _ _ _
def m_57  (im : zI) (lm : zJ) : zR :=
    F_57_4  2000 0 0 im lm
theorem m_57_ok {B : zeB}  (im : zI) (lm : zJ) : zL B 1 (m_57  im lm) (zeRun 57 0 [some (.ref 16), none, none] [] (zk B im lm)) := by
  unfold m_57
  refine zL_eq (d_57_0 _ _) ?_
  exact F_57_4_ok  _ _ _ _ _
/-! X7_doBuzz -/
theorem d_58_0 {B : zeB} {im : Nat → Nat → Int32} {lm : Nat → Nat → Int64} (l1 : Int32) (l2 : Int32)  : zeRun 58 0 [some (.ref 16), some (.int l1), some (.int l2)] [] (zk B im lm) = zeBh 58 5 [some (.ref 16), some (.int l1), some (.int l2)] [] (zeRun 38 0 [some (.ref 16), some (.int l1)] [] (zk B im lm)) := ze_call (ok := true) rfl 3 rfl rfl rfl
theorem d_58_5 {B : zeB} {im : Nat → Nat → Int32} {lm : Nat → Nat → Int64} (l1 : Int32) (l2 : Int32) (s0 : Int32)  : zeRun 58 5 [some (.ref 16), some (.int l1), some (.int l2)] [.int s0] (zk B im lm) = if s0 = 0 then zeRun 58 8 [some (.ref 16), some (.int l1), some (.int l2)] [] (zk B im lm) else zeRun 58 11 [some (.ref 16), some (.int l1), some (.int l2)] [] (zk B im lm) := ze_if (ok := true) rfl 1 rfl rfl
theorem d_58_8 {B : zeB} {im : Nat → Nat → Int32} {lm : Nat → Nat → Int64} (o0 : Option Value) (o1 : Option Value) (o2 : Option Value)  : zeRun 58 8 [o0, o1, o2] [] (zk B im lm) = some (some (.int (-10000001)), (zk B im lm)) := ze_ret (ok := true) rfl 2 rfl rfl
theorem d_58_11 {B : zeB} {im : Nat → Nat → Int32} {lm : Nat → Nat → Int64} (l1 : Int32) (l2 : Int32)  : zeRun 58 11 [some (.ref 16), some (.int l1), some (.int l2)] [] (zk B im lm) = if l2 < 0 then zeRun 58 21 [some (.ref 16), some (.int l1), some (.int l2)] [] (zk B im lm) else zeRun 58 15 [some (.ref 16), some (.int l1), some (.int l2)] [] (zk B im lm) := ze_if (ok := true) rfl 2 rfl rfl
theorem d_58_21 {B : zeB} {im : Nat → Nat → Int32} {lm : Nat → Nat → Int64} (o0 : Option Value) (o1 : Option Value) (o2 : Option Value)  : zeRun 58 21 [o0, o1, o2] [] (zk B im lm) = some (some (.int (-10000002)), (zk B im lm)) := ze_ret (ok := true) rfl 2 rfl rfl
theorem d_58_15 {B : zeB} {im : Nat → Nat → Int32} {lm : Nat → Nat → Int64} (l1 : Int32) (l2 : Int32)  : zeRun 58 15 [some (.ref 16), some (.int l1), some (.int l2)] [] (zk B im lm) = if l2 < 100 then zeRun 58 24 [some (.ref 16), some (.int l1), some (.int l2)] [] (zk B im lm) else zeRun 58 21 [some (.ref 16), some (.int l1), some (.int l2)] [] (zk B im lm) := ze_if (ok := true) rfl 3 rfl rfl
theorem d_58_24 {B : zeB} {im : Nat → Nat → Int32} {lm : Nat → Nat → Int64} (l1 : Int32) (l2 : Int32)  : zeRun 58 24 [some (.ref 16), some (.int l1), some (.int l2)] [] (zk B im lm) = if (im 17 0) = 1 then zeRun 58 41 [some (.ref 16), some (.int l1), some (.int l2)] [] (zk B im lm) else zeRun 58 35 [some (.ref 16), some (.int l1), some (.int l2)] [] (zk B im lm) := ze_if (ok := true) rfl 5 rfl rfl
theorem d_58_41 {B : zeB} {im : Nat → Nat → Int32} {lm : Nat → Nat → Int64} (l1 : Int32) (l2 : Int32)  : zeRun 58 41 [some (.ref 16), some (.int l1), some (.int l2)] [] (zk B im lm) = zeBh 58 53 [some (.ref 16), some (.int l1), some (.int l2)] [] (zeRun 52 0 [some (.ref 19), some (.int l1), some (.int l2), none, none] [] (zk B im lm)) := ze_call (ok := true) rfl 6 rfl rfl rfl
theorem d_58_53 {B : zeB} {im : Nat → Nat → Int32} {lm : Nat → Nat → Int64} (l1 : Int32) (l2 : Int32) (s0 : Int32)  : zeRun 58 53 [some (.ref 16), some (.int l1), some (.int l2)] [.int s0] (zk B im lm) = if s0 = 0 then zeRun 58 59 [some (.ref 16), some (.int l1), some (.int l2)] [] (zk B im lm) else zeRun 58 56 [some (.ref 16), some (.int l1), some (.int l2)] [] (zk B im lm) := ze_if (ok := true) rfl 1 rfl rfl
theorem d_58_59 {B : zeB} {im : Nat → Nat → Int32} {lm : Nat → Nat → Int64} (l1 : Int32) (l2 : Int32)  : zeRun 58 59 [some (.ref 16), some (.int l1), some (.int l2)] [] (zk B im lm) = zeBh 58 71 [some (.ref 16), some (.int l1), some (.int l2)] [] (zeRun 55 0 [some (.ref 19), some (.int l1), some (.int l2)] [] (zk B im lm)) := ze_call (ok := true) rfl 6 rfl rfl rfl
theorem d_58_71 {B : zeB} {im : Nat → Nat → Int32} {lm : Nat → Nat → Int64} (o1 : Option Value) (o2 : Option Value)  : zeRun 58 71 [some (.ref 16), o1, o2] [] (zk B im lm) = zeBh 58 75 [some (.ref 16), o1, o2] [] (zeRun 57 0 [some (.ref 16), none, none] [] (zk B im lm)) := ze_call (ok := true) rfl 2 rfl rfl rfl
theorem d_58_75 {B : zeB} {im : Nat → Nat → Int32} {lm : Nat → Nat → Int64} (o0 : Option Value) (o1 : Option Value) (o2 : Option Value) (s0 : Int32)  : zeRun 58 75 [o0, o1, o2] [.int s0] (zk B im lm) = some (some (.int s0), (zk B im lm)) := ze_ret (ok := true) rfl 1 rfl rfl
theorem d_58_56 {B : zeB} {im : Nat → Nat → Int32} {lm : Nat → Nat → Int64} (o0 : Option Value) (o1 : Option Value) (o2 : Option Value)  : zeRun 58 56 [o0, o1, o2] [] (zk B im lm) = some (some (.int (-10000005)), (zk B im lm)) := ze_ret (ok := true) rfl 2 rfl rfl
theorem d_58_35 {B : zeB} {im : Nat → Nat → Int32} {lm : Nat → Nat → Int64} (o1 : Option Value) (o2 : Option Value)  : zeRun 58 35 [some (.ref 16), o1, o2] [] (zk B im lm) = zeBh 58 40 [some (.ref 16), o1, o2] [] (zeRun 17 0 [some (.ref 16), some (.int 1)] [] (zk B im lm)) := ze_call (ok := true) rfl 3 rfl rfl rfl
theorem d_58_40 {B : zeB} {im : Nat → Nat → Int32} {lm : Nat → Nat → Int64} (o0 : Option Value) (o1 : Option Value) (o2 : Option Value) (s0 : Int32)  : zeRun 58 40 [o0, o1, o2] [.int s0] (zk B im lm) = some (some (.int s0), (zk B im lm)) := ze_ret (ok := true) rfl 1 rfl rfl
def m_58 (l1 : Int32) (l2 : Int32) (im : zI) (lm : zJ) : zR :=
    if (if l1 < 0 then 0 else if (im 17 1) ≤ l1 then 0 else 1 : Int32) = 0 then
      some ((-10000001), im, lm)
    else
      if l2 < 0 then
        some ((-10000002), im, lm)
      else
        if l2 < 100 then
          if (im 17 0) = 1 then
            zBd (m_52 l1 l2 im lm) fun v2 im2 lm2 =>
            if v2 = 0 then
              zBd (m_55 l1 l2 im2 lm2) fun _ im3 lm3 =>
              zBd (m_57  im3 lm3) fun v4 im4 lm4 =>
              some (v4, im4, lm4)
            else
              some ((-10000005), im2, lm2)
          else
            zBd (m_17 1 im lm) fun v5 im5 lm5 =>
            some (v5, im5, lm5)
        else
          some ((-10000002), im, lm)
theorem m_58_ok {B : zeB} (l1 : Int32) (l2 : Int32) (im : zI) (lm : zJ) : zL B 1 (m_58 l1 l2 im lm) (zeRun 58 0 [some (.ref 16), some (.int l1), some (.int l2)] [] (zk B im lm)) := by
  unfold m_58
  refine zL_bdp (e := (if l1 < 0 then 0 else if (im 17 1) ≤ l1 then 0 else 1 : Int32)) (d_58_0 _ _) (m_38_ok _ _ _) ?_
  refine zL_if (d_58_5 _ _ _) (fun h => ?_) (fun h => ?_)
  · skip
    exact zL_ret (d_58_8 _ _ _)
  · skip
    refine zL_if (d_58_11 _ _) (fun h => ?_) (fun h => ?_)
    · skip
      exact zL_ret (d_58_21 _ _ _)
    · skip
      refine zL_if (d_58_15 _ _) (fun h => ?_) (fun h => ?_)
      · skip
        refine zL_if (d_58_24 _ _) (fun h => ?_) (fun h => ?_)
        · skip
          refine zL_bd (d_58_41 _ _) (m_52_ok _ _ _ _) fun v2 im2 lm2 => ?_
          refine zL_if (d_58_53 _ _ _) (fun h => ?_) (fun h => ?_)
          · skip
            refine zL_bdv (d_58_59 _ _) (m_55_ok _ _ _ _) fun _ im3 lm3 => ?_
            refine zL_bd (d_58_71 _ _) (m_57_ok _ _) fun v4 im4 lm4 => ?_
            exact zL_ret (d_58_75 _ _ _ _)
          · skip
            exact zL_ret (d_58_56 _ _ _)
        · skip
          refine zL_bd (d_58_35 _ _) (m_17_ok _ _ _) fun v5 im5 lm5 => ?_
          exact zL_ret (d_58_40 _ _ _ _)
      · skip
        exact zL_ret (d_58_21 _ _ _)
/-! X7_buzz -/
theorem d_59_0 {B : zeB} {im : Nat → Nat → Int32} {lm : Nat → Nat → Int64} (l1 : Int32) (l2 : Int32)  : zeRun 59 0 [some (.ref 16), some (.int l1), some (.int l2)] [] (zk B im lm) = zeBh 59 11 [some (.ref 16), some (.int l1), some (.int l2)] [] (zeRun 15 0 [some (.ref 42), some (.ref 17)] [] (zk B im lm)) := ze_call (ok := true) rfl 5 rfl rfl rfl
theorem d_59_11 {B : zeB} {im : Nat → Nat → Int32} {lm : Nat → Nat → Int64} (l1 : Int32) (l2 : Int32)  : zeRun 59 11 [some (.ref 16), some (.int l1), some (.int l2)] [] (zk B im lm) = zeBh 59 18 [some (.ref 16), some (.int l1), some (.int l2)] [.ref 16] (zeRun 58 0 [some (.ref 16), some (.int l1), some (.int l2)] [] (zk B im lm)) := ze_call (ok := true) rfl 5 rfl rfl rfl
theorem d_59_18 {B : zeB} {im : Nat → Nat → Int32} {lm : Nat → Nat → Int64} (o0 : Option Value) (o1 : Option Value) (o2 : Option Value) (s1 : Int32)  : zeRun 59 18 [o0, o1, o2] [.int s1, .ref 16] (zk B im lm) = zeBh 59 21 [o0, o1, o2] [] (zeRun 21 0 [some (.ref 16), some (.int s1)] [] (zk B im lm)) := ze_call (ok := true) rfl 1 rfl rfl rfl
theorem d_59_21 {B : zeB} {im : Nat → Nat → Int32} {lm : Nat → Nat → Int64} (o0 : Option Value) (o1 : Option Value) (o2 : Option Value) (s0 : Int32)  : zeRun 59 21 [o0, o1, o2] [.int s0] (zk B im lm) = some (some (.int s0), (zk B im lm)) := ze_ret (ok := true) rfl 1 rfl rfl
def m_59 (l1 : Int32) (l2 : Int32) (im : zI) (lm : zJ) : zR :=
    zBd (m_15  im lm) fun _ im1 lm1 =>
    zBd (m_58 l1 l2 im1 lm1) fun v2 im2 lm2 =>
    zBd (m_21 v2 im2 lm2) fun v3 im3 lm3 =>
    some (v3, im3, lm3)
theorem m_59_ok {B : zeB} (l1 : Int32) (l2 : Int32) (im : zI) (lm : zJ) : zL B 1 (m_59 l1 l2 im lm) (zeRun 59 0 [some (.ref 16), some (.int l1), some (.int l2)] [] (zk B im lm)) := by
  unfold m_59
  refine zL_bdv (d_59_0 _ _) (m_15_ok _ _) fun _ im1 lm1 => ?_
  refine zL_bd (d_59_11 _ _) (m_58_ok _ _ _ _) fun v2 im2 lm2 => ?_
  refine zL_bd (d_59_18 _ _ _ _) (m_21_ok _ _ _) fun v3 im3 lm3 => ?_
  exact zL_ret (d_59_21 _ _ _ _)
/-! X8_hasBuzzed -/
theorem d_60_0 {B : zeB} {im : Nat → Nat → Int32} {lm : Nat → Nat → Int64} (l1 : Int32) (l2 : Int32) (c0 : zeInb ((30 + (4 * l1)) + (l2 / 25)) 360 = true) : zeRun 60 0 [some (.ref 170), some (.int l1), some (.int l2)] [] (zk B im lm) = if (((im 171 (Int32.toNatClampNeg ((30 + (4 * l1)) + (l2 / 25)))) >>> ((zfirem l2 25) &&& 31)) &&& 1) = 1 then zeRun 60 27 [some (.ref 170), some (.int l1), some (.int l2)] [] (zk B im lm) else zeRun 60 31 [some (.ref 170), some (.int l1), some (.int l2)] [] (zk B im lm) := ze_if (ok := (zeInb ((30 + (4 * l1)) + (l2 / 25)) 360 && true)) rfl 20 rfl (zeA2 c0 rfl)
theorem d_60_27 {B : zeB} {im : Nat → Nat → Int32} {lm : Nat → Nat → Int64} (o0 : Option Value) (o1 : Option Value) (o2 : Option Value)  : zeRun 60 27 [o0, o1, o2] [] (zk B im lm) = some (some (.int 1), (zk B im lm)) := ze_ret (ok := true) rfl 3 rfl rfl
theorem d_60_31 {B : zeB} {im : Nat → Nat → Int32} {lm : Nat → Nat → Int64} (o0 : Option Value) (o1 : Option Value) (o2 : Option Value)  : zeRun 60 31 [o0, o1, o2] [] (zk B im lm) = some (some (.int 0), (zk B im lm)) := ze_ret (ok := true) rfl 2 rfl rfl
def m_60 (l1 : Int32) (l2 : Int32) (im : zI) (lm : zJ) : zR :=
    zCk (zeInb ((30 + (4 * l1)) + (l2 / 25)) 360) <|
    some (if (((im 171 (Int32.toNatClampNeg ((30 + (4 * l1)) + (l2 / 25)))) >>> ((zfirem l2 25) &&& 31)) &&& 1) = 1 then 1 else 0, im, lm)
theorem m_60_ok {B : zeB} (l1 : Int32) (l2 : Int32) (im : zI) (lm : zJ) : zL B 1 (m_60 l1 l2 im lm) (zeRun 60 0 [some (.ref 170), some (.int l1), some (.int l2)] [] (zk B im lm)) := by
  unfold m_60
  refine zL_ck fun c1 => ?_
  refine zL_ifm (d_60_0 _ _ c1) (fun h => ?_) (fun h => ?_)
  · repeat rw [if_pos h]
    exact zL_ret (d_60_27 _ _ _)
  · repeat rw [if_neg h]
    exact zL_ret (d_60_31 _ _ _)
/-! X8_checkBuzz -/
theorem d_61_0 {B : zeB} {im : Nat → Nat → Int32} {lm : Nat → Nat → Int64} (l1 : Int32) (l2 : Int32)  : zeRun 61 0 [some (.ref 170), some (.int l1), some (.int l2)] [] (zk B im lm) = zeBh 61 5 [some (.ref 170), some (.int l1), some (.int l2)] [] (zeRun 44 0 [some (.ref 170), some (.int l1)] [] (zk B im lm)) := ze_call (ok := true) rfl 3 rfl rfl rfl
theorem d_61_5 {B : zeB} {im : Nat → Nat → Int32} {lm : Nat → Nat → Int64} (l1 : Int32) (l2 : Int32) (s0 : Int32)  : zeRun 61 5 [some (.ref 170), some (.int l1), some (.int l2)] [.int s0] (zk B im lm) = if s0 = 0 then zeRun 61 11 [some (.ref 170), some (.int l1), some (.int l2)] [] (zk B im lm) else zeRun 61 8 [some (.ref 170), some (.int l1), some (.int l2)] [] (zk B im lm) := ze_if (ok := true) rfl 1 rfl rfl
theorem d_61_11 {B : zeB} {im : Nat → Nat → Int32} {lm : Nat → Nat → Int64} (l1 : Int32) (l2 : Int32)  : zeRun 61 11 [some (.ref 170), some (.int l1), some (.int l2)] [] (zk B im lm) = zeBh 61 18 [some (.ref 170), some (.int l1), some (.int l2)] [] (zeRun 32 0 [some (.int l2), some (.int 0), some (.int 99)] [] (zk B im lm)) := ze_call (ok := true) rfl 4 rfl rfl rfl
theorem d_61_18 {B : zeB} {im : Nat → Nat → Int32} {lm : Nat → Nat → Int64} (l1 : Int32) (l2 : Int32) (s0 : Int32)  : zeRun 61 18 [some (.ref 170), some (.int l1), some (.int l2)] [.int s0] (zk B im lm) = if s0 = 0 then zeRun 61 21 [some (.ref 170), some (.int l1), some (.int l2)] [] (zk B im lm) else zeRun 61 24 [some (.ref 170), some (.int l1), some (.int l2)] [] (zk B im lm) := ze_if (ok := true) rfl 1 rfl rfl
theorem d_61_21 {B : zeB} {im : Nat → Nat → Int32} {lm : Nat → Nat → Int64} (o0 : Option Value) (o1 : Option Value) (o2 : Option Value)  : zeRun 61 21 [o0, o1, o2] [] (zk B im lm) = some (some (.int (-10000002)), (zk B im lm)) := ze_ret (ok := true) rfl 2 rfl rfl
theorem d_61_24 {B : zeB} {im : Nat → Nat → Int32} {lm : Nat → Nat → Int64} (l1 : Int32) (l2 : Int32)  : zeRun 61 24 [some (.ref 170), some (.int l1), some (.int l2)] [] (zk B im lm) = if (im 171 0) = 1 then zeRun 61 40 [some (.ref 170), some (.int l1), some (.int l2)] [] (zk B im lm) else zeRun 61 34 [some (.ref 170), some (.int l1), some (.int l2)] [] (zk B im lm) := ze_if (ok := true) rfl 6 rfl rfl
theorem d_61_40 {B : zeB} {im : Nat → Nat → Int32} {lm : Nat → Nat → Int64} (l1 : Int32) (l2 : Int32)  : zeRun 61 40 [some (.ref 170), some (.int l1), some (.int l2)] [] (zk B im lm) = zeBh 61 46 [some (.ref 170), some (.int l1), some (.int l2)] [] (zeRun 60 0 [some (.ref 170), some (.int l1), some (.int l2)] [] (zk B im lm)) := ze_call (ok := true) rfl 4 rfl rfl rfl
theorem d_61_46 {B : zeB} {im : Nat → Nat → Int32} {lm : Nat → Nat → Int64} (o0 : Option Value) (o1 : Option Value) (o2 : Option Value) (s0 : Int32)  : zeRun 61 46 [o0, o1, o2] [.int s0] (zk B im lm) = if s0 = 0 then zeRun 61 54 [o0, o1, o2] [] (zk B im lm) else zeRun 61 49 [o0, o1, o2] [] (zk B im lm) := ze_if (ok := true) rfl 1 rfl rfl
theorem d_61_54 {B : zeB} {im : Nat → Nat → Int32} {lm : Nat → Nat → Int64} (o0 : Option Value) (o1 : Option Value) (o2 : Option Value)  : zeRun 61 54 [o0, o1, o2] [] (zk B im lm) = some (some (.int 0), (zk B im lm)) := ze_ret (ok := true) rfl 2 rfl rfl
theorem d_61_49 {B : zeB} {im : Nat → Nat → Int32} {lm : Nat → Nat → Int64} (o0 : Option Value) (o1 : Option Value) (o2 : Option Value)  : zeRun 61 49 [o0, o1, o2] [] (zk B im lm) = some (some (.int (-10000005)), (zk B im lm)) := ze_ret (ok := true) rfl 3 rfl rfl
theorem d_61_34 {B : zeB} {im : Nat → Nat → Int32} {lm : Nat → Nat → Int64} (o1 : Option Value) (o2 : Option Value)  : zeRun 61 34 [some (.ref 170), o1, o2] [] (zk B im lm) = zeBh 61 39 [some (.ref 170), o1, o2] [] (zeRun 24 0 [some (.ref 170), some (.int 1)] [] (zk B im lm)) := ze_call (ok := true) rfl 3 rfl rfl rfl
theorem d_61_39 {B : zeB} {im : Nat → Nat → Int32} {lm : Nat → Nat → Int64} (o0 : Option Value) (o1 : Option Value) (o2 : Option Value) (s0 : Int32)  : zeRun 61 39 [o0, o1, o2] [.int s0] (zk B im lm) = some (some (.int s0), (zk B im lm)) := ze_ret (ok := true) rfl 1 rfl rfl
theorem d_61_8 {B : zeB} {im : Nat → Nat → Int32} {lm : Nat → Nat → Int64} (o0 : Option Value) (o1 : Option Value) (o2 : Option Value)  : zeRun 61 8 [o0, o1, o2] [] (zk B im lm) = some (some (.int (-10000001)), (zk B im lm)) := ze_ret (ok := true) rfl 2 rfl rfl
def m_61 (l1 : Int32) (l2 : Int32) (im : zI) (lm : zJ) : zR :=
    if (if (if l1 < 0 then 0 else if ((im 171 1) - 1) < l1 then 0 else 1 : Int32) = 0 then 1 else 0 : Int32) = 0 then
      if (if l2 < 0 then 0 else if 99 < l2 then 0 else 1 : Int32) = 0 then
        some ((-10000002), im, lm)
      else
        if (im 171 0) = 1 then
          zBd (m_60 l1 l2 im lm) fun v3 im3 lm3 =>
          some (if v3 = 0 then 0 else (-10000005), im3, lm3)
        else
          zBd (m_24 1 im lm) fun v4 im4 lm4 =>
          some (v4, im4, lm4)
    else
      some ((-10000001), im, lm)
theorem m_61_ok {B : zeB} (l1 : Int32) (l2 : Int32) (im : zI) (lm : zJ) : zL B 1 (m_61 l1 l2 im lm) (zeRun 61 0 [some (.ref 170), some (.int l1), some (.int l2)] [] (zk B im lm)) := by
  unfold m_61
  refine zL_bdp (e := (if (if l1 < 0 then 0 else if ((im 171 1) - 1) < l1 then 0 else 1 : Int32) = 0 then 1 else 0 : Int32)) (d_61_0 _ _) (m_44_ok _ _ _) ?_
  refine zL_if (d_61_5 _ _ _) (fun h => ?_) (fun h => ?_)
  · skip
    refine zL_bdp (e := (if l2 < 0 then 0 else if 99 < l2 then 0 else 1 : Int32)) (d_61_11 _ _) (m_32_ok _ _ _ _ _) ?_
    refine zL_if (d_61_18 _ _ _) (fun h => ?_) (fun h => ?_)
    · skip
      exact zL_ret (d_61_21 _ _ _)
    · skip
      refine zL_if (d_61_24 _ _) (fun h => ?_) (fun h => ?_)
      · skip
        refine zL_bd (d_61_40 _ _) (m_60_ok _ _ _ _) fun v3 im3 lm3 => ?_
        refine zL_ifm (d_61_46 _ _ _ _) (fun h => ?_) (fun h => ?_)
        · repeat rw [if_pos h]
          exact zL_ret (d_61_54 _ _ _)
        · repeat rw [if_neg h]
          exact zL_ret (d_61_49 _ _ _)
      · skip
        refine zL_bd (d_61_34 _ _) (m_24_ok _ _ _) fun v4 im4 lm4 => ?_
        exact zL_ret (d_61_39 _ _ _ _)
  · skip
    exact zL_ret (d_61_8 _ _ _)
/-! X8_counting -/
theorem d_62_0 {B : zeB} {im : Nat → Nat → Int32} {lm : Nat → Nat → Int64} (l1 : Int32) (o2 : Option Value) (o3 : Option Value)  : zeRun 62 0 [some (.ref 170), some (.int l1), o2, o3] [] (zk B im lm) = zeRun 62 4 [some (.ref 170), some (.int l1), some (.int 0), some (.int 0)] [] (zk B im lm) := ze_go (ok := true) rfl 4 rfl rfl
theorem d_62_4 {B : zeB} {im : Nat → Nat → Int32} {lm : Nat → Nat → Int64} (l1 : Int32) (l2 : Int32) (l3 : Int32)  : zeRun 62 4 [some (.ref 170), some (.int l1), some (.int l2), some (.int l3)] [] (zk B im lm) = if 100 ≤ l3 then zeRun 62 77 [some (.ref 170), some (.int l1), some (.int l2), some (.int l3)] [] (zk B im lm) else zeRun 62 10 [some (.ref 170), some (.int l1), some (.int l2), some (.int l3)] [] (zk B im lm) := ze_if (ok := true) rfl 3 rfl rfl
theorem d_62_77 {B : zeB} {im : Nat → Nat → Int32} {lm : Nat → Nat → Int64} (o0 : Option Value) (o1 : Option Value) (o2 : Option Value) (o3 : Option Value)  : zeRun 62 77 [o0, o1, o2, o3] [] (zk B im lm) = some (some (.int (-1)), (zk B im lm)) := ze_ret (ok := true) rfl 2 rfl rfl
theorem d_62_10 {B : zeB} {im : Nat → Nat → Int32} {lm : Nat → Nat → Int64} (l1 : Int32) (l2 : Int32) (l3 : Int32)  : zeRun 62 10 [some (.ref 170), some (.int l1), some (.int l2), some (.int l3)] [] (zk B im lm) = zeBh 62 16 [some (.ref 170), some (.int l1), some (.int l2), some (.int l3)] [] (zeRun 60 0 [some (.ref 170), some (.int l1), some (.int l3)] [] (zk B im lm)) := ze_call (ok := true) rfl 4 rfl rfl rfl
theorem d_62_16 {B : zeB} {im : Nat → Nat → Int32} {lm : Nat → Nat → Int64} (l1 : Int32) (l2 : Int32) (l3 : Int32) (s0 : Int32)  : zeRun 62 16 [some (.ref 170), some (.int l1), some (.int l2), some (.int l3)] [.int s0] (zk B im lm) = if s0 = 0 then zeRun 62 71 [some (.ref 170), some (.int l1), some (.int l2), some (.int l3)] [] (zk B im lm) else zeRun 62 19 [some (.ref 170), some (.int l1), some (.int l2), some (.int l3)] [] (zk B im lm) := ze_if (ok := true) rfl 1 rfl rfl
theorem d_62_71 {B : zeB} {im : Nat → Nat → Int32} {lm : Nat → Nat → Int64} (l1 : Int32) (l2 : Int32) (l3 : Int32)  : zeRun 62 71 [some (.ref 170), some (.int l1), some (.int l2), some (.int l3)] [] (zk B im lm) = zeRun 62 4 [some (.ref 170), some (.int l1), some (.int l2), some (.int (l3 + 1))] [] (zk B im lm) := ze_go (ok := true) rfl 2 rfl rfl
theorem d_62_19 {B : zeB} {im : Nat → Nat → Int32} {lm : Nat → Nat → Int64} (l1 : Int32) (l2 : Int32) (l3 : Int32)  : zeRun 62 19 [some (.ref 170), some (.int l1), some (.int l2), some (.int l3)] [] (zk B im lm) = if l3 < (im 171 3) then zeRun 62 36 [some (.ref 170), some (.int l1), some (.int l2), some (.int l3)] [] (zk B im lm) else zeRun 62 29 [some (.ref 170), some (.int l1), some (.int l2), some (.int l3)] [] (zk B im lm) := ze_if (ok := true) rfl 6 rfl rfl
theorem d_62_29 {B : zeB} {im : Nat → Nat → Int32} {lm : Nat → Nat → Int64} (l1 : Int32) (l2 : Int32) (l3 : Int32)  : zeRun 62 29 [some (.ref 170), some (.int l1), some (.int l2), some (.int l3)] [] (zk B im lm) = if l3 < l2 then zeRun 62 36 [some (.ref 170), some (.int l1), some (.int l2), some (.int l3)] [] (zk B im lm) else zeRun 62 34 [some (.ref 170), some (.int l1), some (.int l2), some (.int l3)] [] (zk B im lm) := ze_if (ok := true) rfl 3 rfl rfl
theorem d_62_34 {B : zeB} {im : Nat → Nat → Int32} {lm : Nat → Nat → Int64} (o0 : Option Value) (o1 : Option Value) (o2 : Option Value) (l3 : Int32)  : zeRun 62 34 [o0, o1, o2, some (.int l3)] [] (zk B im lm) = some (some (.int l3), (zk B im lm)) := ze_ret (ok := true) rfl 2 rfl rfl
theorem d_62_36 {B : zeB} {im : Nat → Nat → Int32} {lm : Nat → Nat → Int64} (l1 : Int32) (l2 : Int32) (l3 : Int32)  : zeRun 62 36 [some (.ref 170), some (.int l1), some (.int l2), some (.int l3)] [] (zk B im lm) = if (im 171 3) ≤ l3 then zeRun 62 69 [some (.ref 170), some (.int l1), some (.int l2), some (.int l3)] [] (zk B im lm) else zeRun 62 46 [some (.ref 170), some (.int l1), some (.int l2), some (.int l3)] [] (zk B im lm) := ze_if (ok := true) rfl 6 rfl rfl
theorem d_62_69 {B : zeB} {im : Nat → Nat → Int32} {lm : Nat → Nat → Int64} (l1 : Int32) (l2 : Int32) (l3 : Int32)  : zeRun 62 69 [some (.ref 170), some (.int l1), some (.int l2), some (.int l3)] [] (zk B im lm) = zeRun 62 4 [some (.ref 170), some (.int l1), some (.int l2), some (.int (l3 + 1))] [] (zk B im lm) := ze_go (ok := true) rfl 4 rfl rfl
theorem d_62_46 {B : zeB} {im : Nat → Nat → Int32} {lm : Nat → Nat → Int64} (l1 : Int32) (l2 : Int32) (l3 : Int32)  : zeRun 62 46 [some (.ref 170), some (.int l1), some (.int l2), some (.int l3)] [] (zk B im lm) = if (l3 + (im 171 4)) ≤ l2 then zeRun 62 69 [some (.ref 170), some (.int l1), some (.int l2), some (.int l3)] [] (zk B im lm) else zeRun 62 58 [some (.ref 170), some (.int l1), some (.int l2), some (.int l3)] [] (zk B im lm) := ze_if (ok := true) rfl 8 rfl rfl
theorem d_62_58 {B : zeB} {im : Nat → Nat → Int32} {lm : Nat → Nat → Int64} (l1 : Int32) (o2 : Option Value) (l3 : Int32)  : zeRun 62 58 [some (.ref 170), some (.int l1), o2, some (.int l3)] [] (zk B im lm) = zeRun 62 4 [some (.ref 170), some (.int l1), some (.int (l3 + (im 171 4))), some (.int (l3 + 1))] [] (zk B im lm) := ze_go (ok := true) rfl 10 rfl rfl
def J_62_36 (K4 : Int32 → Int32 → Int32 → zI → zJ → zR) (l1 : Int32) (l2 : Int32) (l3 : Int32) (im : zI) (lm : zJ) : zR :=
    K4 l1 (if (im 171 3) ≤ l3 then l2 else if (l3 + (im 171 4)) ≤ l2 then l2 else (l3 + (im 171 4))) (l3 + 1) im lm
theorem J_62_36_ok {B : zeB} (K4 : Int32 → Int32 → Int32 → zI → zJ → zR) (hK4 : ∀ (l1 : Int32) (l2 : Int32) (l3 : Int32)  (im : zI) (lm : zJ), zL B 1 (K4 l1 l2 l3 im lm) (zeRun 62 4 [some (.ref 170), some (.int l1), some (.int l2), some (.int l3)] [] (zk B im lm))) (l1 : Int32) (l2 : Int32) (l3 : Int32)  (im : zI) (lm : zJ) : zL B 1 (J_62_36 K4 l1 l2 l3 im lm) (zeRun 62 36 [some (.ref 170), some (.int l1), some (.int l2), some (.int l3)] [] (zk B im lm)) := by
  unfold J_62_36
  refine zL_ifm (d_62_36 _ _ _) (fun h => ?_) (fun h => ?_)
  · repeat rw [if_pos h]
    refine zL_eq (d_62_69 _ _ _) ?_
    exact hK4 _ _ _ _ _
  · repeat rw [if_neg h]
    refine zL_ifm (d_62_46 _ _ _) (fun h => ?_) (fun h => ?_)
    · repeat rw [if_pos h]
      refine zL_eq (d_62_69 _ _ _) ?_
      exact hK4 _ _ _ _ _
    · repeat rw [if_neg h]
      refine zL_eq (d_62_58 _ _ _) ?_
      exact hK4 _ _ _ _ _
def F_62_4  : Nat → Int32 → Int32 → Int32 → zI → zJ → zR
  | 0, _, _, _, _, _ => none
  | n + 1, l1, l2, l3, im, lm =>
    if 100 ≤ l3 then
      some ((-1), im, lm)
    else
      zBd (m_60 l1 l3 im lm) fun v1 im1 lm1 =>
      if v1 = 0 then
        F_62_4  n l1 l2 (l3 + 1) im1 lm1
      else
        if l3 < (im1 171 3) then
          J_62_36 (F_62_4  n)  l1 l2 l3 im1 lm1
        else
          if l3 < l2 then
            J_62_36 (F_62_4  n)  l1 l2 l3 im1 lm1
          else
            some (l3, im1, lm1)
theorem F_62_4_ok {B : zeB} : ∀ (n : Nat) (l1 : Int32) (l2 : Int32) (l3 : Int32)  (im : zI) (lm : zJ), zL B 1 (F_62_4  n l1 l2 l3 im lm) (zeRun 62 4 [some (.ref 170), some (.int l1), some (.int l2), some (.int l3)] [] (zk B im lm)) := by
  intro n
  induction n with
  | zero => intros; exact zL_none
  | succ n ih =>
    intro l1 l2 l3 im lm
    unfold F_62_4
    refine zL_if (d_62_4 _ _ _) (fun h => ?_) (fun h => ?_)
    · skip
      exact zL_ret (d_62_77 _ _ _ _)
    · skip
      refine zL_bd (d_62_10 _ _ _) (m_60_ok _ _ _ _) fun v1 im1 lm1 => ?_
      refine zL_if (d_62_16 _ _ _ _) (fun h => ?_) (fun h => ?_)
      · skip
        refine zL_eq (d_62_71 _ _ _) ?_
        exact ih _ _ _ _ _
      · skip
        refine zL_if (d_62_19 _ _ _) (fun h => ?_) (fun h => ?_)
        · skip
          exact J_62_36_ok _ ih  _ _ _ _ _
        · skip
          refine zL_if (d_62_29 _ _ _) (fun h => ?_) (fun h => ?_)
          · skip
            exact J_62_36_ok _ ih  _ _ _ _ _
          · skip
            exact zL_ret (d_62_34 _ _ _ _)
def m_62 (l1 : Int32) (im : zI) (lm : zJ) : zR :=
    F_62_4  2000 l1 0 0 im lm
theorem m_62_ok {B : zeB} (l1 : Int32) (im : zI) (lm : zJ) : zL B 1 (m_62 l1 im lm) (zeRun 62 0 [some (.ref 170), some (.int l1), none, none] [] (zk B im lm)) := by
  unfold m_62
  refine zL_eq (d_62_0 _ _ _) ?_
  exact F_62_4_ok  _ _ _ _ _ _
