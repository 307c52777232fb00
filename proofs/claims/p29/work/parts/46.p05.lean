/-! pure: X7_addPlayer, X2_answersTo, X7_clue, X7_doSetWagerClue, X7_setWagerClue, L_wagers, X7_isQueued, X7_isQueuedAhead, X7_queuePlaceOf, X7_playerInQueue, X7_queued, X3_isTold, X3_endOfLock, X3_leastCountingTick -/
/-! X7_addPlayer -/
theorem d_22_0 {B : zeB} {im : Nat → Nat → Int32} {lm : Nat → Nat → Int64}   : zeRun 22 0 [some (.ref 16)] [] (zk B im lm) = zeBh 22 11 [some (.ref 16)] [] (zeRun 15 0 [some (.ref 42), some (.ref 17)] [] (zk B im lm)) := ze_call (ok := true) rfl 5 rfl rfl rfl
theorem d_22_11 {B : zeB} {im : Nat → Nat → Int32} {lm : Nat → Nat → Int64}   : zeRun 22 11 [some (.ref 16)] [] (zk B im lm) = zeBh 22 16 [some (.ref 16)] [.ref 16] (zeRun 18 0 [some (.ref 16)] [] (zk B im lm)) := ze_call (ok := true) rfl 3 rfl rfl rfl
theorem d_22_16 {B : zeB} {im : Nat → Nat → Int32} {lm : Nat → Nat → Int64} (o0 : Option Value) (s1 : Int32)  : zeRun 22 16 [o0] [.int s1, .ref 16] (zk B im lm) = zeBh 22 19 [o0] [] (zeRun 21 0 [some (.ref 16), some (.int s1)] [] (zk B im lm)) := ze_call (ok := true) rfl 1 rfl rfl rfl
theorem d_22_19 {B : zeB} {im : Nat → Nat → Int32} {lm : Nat → Nat → Int64} (o0 : Option Value) (s0 : Int32)  : zeRun 22 19 [o0] [.int s0] (zk B im lm) = some (some (.int s0), (zk B im lm)) := ze_ret (ok := true) rfl 1 rfl rfl
def m_22  (im : zI) (lm : zJ) : zR :=
    zBd (m_15  im lm) fun _ im1 lm1 =>
    zBd (m_18  im1 lm1) fun v2 im2 lm2 =>
    zBd (m_21 v2 im2 lm2) fun v3 im3 lm3 =>
    some (v3, im3, lm3)
theorem m_22_ok {B : zeB}  (im : zI) (lm : zJ) : zL B 1 (m_22  im lm) (zeRun 22 0 [some (.ref 16)] [] (zk B im lm)) := by
  unfold m_22
  refine zL_bdv d_22_0 (m_15_ok _ _) fun _ im1 lm1 => ?_
  refine zL_bd d_22_11 (m_18_ok _ _) fun v2 im2 lm2 => ?_
  refine zL_bd (d_22_16 _ _) (m_21_ok _ _ _) fun v3 im3 lm3 => ?_
  exact zL_ret (d_22_19 _ _)
/-! X2_answersTo -/
theorem d_168_0 {B : zeB} {im : Nat → Nat → Int32} {lm : Nat → Nat → Int64} (l1 : Int32) (o2 : Option Value) (o3 : Option Value)  : zeRun 168 0 [some (.ref 26), some (.int l1), o2, o3] [] (zk B im lm) = zeRun 168 4 [some (.ref 26), some (.int l1), some (.int 0), some (.int 0)] [] (zk B im lm) := ze_go (ok := true) rfl 4 rfl rfl
theorem d_168_4 {B : zeB} {im : Nat → Nat → Int32} {lm : Nat → Nat → Int64} (l1 : Int32) (l2 : Int32) (l3 : Int32)  : zeRun 168 4 [some (.ref 26), some (.int l1), some (.int l2), some (.int l3)] [] (zk B im lm) = if (im 26 0) ≤ l3 then zeRun 168 31 [some (.ref 26), some (.int l1), some (.int l2), some (.int l3)] [] (zk B im lm) else zeRun 168 12 [some (.ref 26), some (.int l1), some (.int l2), some (.int l3)] [] (zk B im lm) := ze_if (ok := true) rfl 4 rfl rfl
theorem d_168_31 {B : zeB} {im : Nat → Nat → Int32} {lm : Nat → Nat → Int64} (o0 : Option Value) (o1 : Option Value) (l2 : Int32) (o3 : Option Value)  : zeRun 168 31 [o0, o1, some (.int l2), o3] [] (zk B im lm) = some (some (.int l2), (zk B im lm)) := ze_ret (ok := true) rfl 2 rfl rfl
theorem d_168_12 {B : zeB} {im : Nat → Nat → Int32} {lm : Nat → Nat → Int64} (l1 : Int32) (l2 : Int32) (l3 : Int32) (c0 : zeInb l3 60 = true) : zeRun 168 12 [some (.ref 26), some (.int l1), some (.int l2), some (.int l3)] [] (zk B im lm) = if (im 29 (Int32.toNatClampNeg l3)) = l1 then zeRun 168 22 [some (.ref 26), some (.int l1), some (.int l2), some (.int l3)] [] (zk B im lm) else zeRun 168 25 [some (.ref 26), some (.int l1), some (.int l2), some (.int l3)] [] (zk B im lm) := ze_if (ok := (zeInb l3 60 && true)) rfl 6 rfl (zeA2 c0 rfl)
theorem d_168_22 {B : zeB} {im : Nat → Nat → Int32} {lm : Nat → Nat → Int64} (l1 : Int32) (l2 : Int32) (l3 : Int32)  : zeRun 168 22 [some (.ref 26), some (.int l1), some (.int l2), some (.int l3)] [] (zk B im lm) = zeRun 168 4 [some (.ref 26), some (.int l1), some (.int (l2 + 1)), some (.int (l3 + 1))] [] (zk B im lm) := ze_go (ok := true) rfl 3 rfl rfl
theorem d_168_25 {B : zeB} {im : Nat → Nat → Int32} {lm : Nat → Nat → Int64} (l1 : Int32) (l2 : Int32) (l3 : Int32)  : zeRun 168 25 [some (.ref 26), some (.int l1), some (.int l2), some (.int l3)] [] (zk B im lm) = zeRun 168 4 [some (.ref 26), some (.int l1), some (.int l2), some (.int (l3 + 1))] [] (zk B im lm) := ze_go (ok := true) rfl 2 rfl rfl
def F_168_4  : Nat → Int32 → Int32 → Int32 → zI → zJ → zR
  | 0, _, _, _, _, _ => none
  | n + 1, l1, l2, l3, im, lm =>
    if (im 26 0) ≤ l3 then
      some (l2, im, lm)
    else
      zCk (zeInb l3 60) <|
      F_168_4  n l1 (if (im 29 (Int32.toNatClampNeg l3)) = l1 then (l2 + 1) else l2) (l3 + 1) im lm
theorem F_168_4_ok {B : zeB} : ∀ (n : Nat) (l1 : Int32) (l2 : Int32) (l3 : Int32)  (im : zI) (lm : zJ), zL B 1 (F_168_4  n l1 l2 l3 im lm) (zeRun 168 4 [some (.ref 26), some (.int l1), some (.int l2), some (.int l3)] [] (zk B im lm)) := by
  intro n
  induction n with
  | zero => intros; exact zL_none
  | succ n ih =>
    intro l1 l2 l3 im lm
    unfold F_168_4
    refine zL_if (d_168_4 _ _ _) (fun h => ?_) (fun h => ?_)
    · skip
      exact zL_ret (d_168_31 _ _ _ _)
    · skip
      refine zL_ck fun c1 => ?_
      refine zL_ifm (d_168_12 _ _ _ c1) (fun h => ?_) (fun h => ?_)
      · repeat rw [if_pos h]
        refine zL_eq (d_168_22 _ _ _) ?_
        exact ih _ _ _ _ _
      · repeat rw [if_neg h]
        refine zL_eq (d_168_25 _ _ _) ?_
        exact ih _ _ _ _ _
def m_168 (l1 : Int32) (im : zI) (lm : zJ) : zR :=
    F_168_4  2000 l1 0 0 im lm
theorem m_168_ok {B : zeB} (l1 : Int32) (im : zI) (lm : zJ) : zL B 1 (m_168 l1 im lm) (zeRun 168 0 [some (.ref 26), some (.int l1), none, none] [] (zk B im lm)) := by
  unfold m_168
  refine zL_eq (d_168_0 _ _ _) ?_
  exact F_168_4_ok  _ _ _ _ _ _
/-! X7_clue -/
theorem d_169_0 {B : zeB} {im : Nat → Nat → Int32} {lm : Nat → Nat → Int64} (l1 : Int32) (l2 : Int32)  : zeRun 169 0 [some (.ref 16), some (.int l1), some (.int l2)] [] (zk B im lm) = zeBh 169 4 [some (.ref 16), some (.int l1), some (.int l2)] [] (zeRun 27 0 [some (.int l1)] [] (zk B im lm)) := ze_call (ok := true) rfl 2 rfl rfl rfl
theorem d_169_4 {B : zeB} {im : Nat → Nat → Int32} {lm : Nat → Nat → Int64} (l1 : Int32) (l2 : Int32) (s0 : Int32)  : zeRun 169 4 [some (.ref 16), some (.int l1), some (.int l2)] [.int s0] (zk B im lm) = if s0 = 0 then zeRun 169 7 [some (.ref 16), some (.int l1), some (.int l2)] [] (zk B im lm) else zeRun 169 10 [some (.ref 16), some (.int l1), some (.int l2)] [] (zk B im lm) := ze_if (ok := true) rfl 1 rfl rfl
theorem d_169_7 {B : zeB} {im : Nat → Nat → Int32} {lm : Nat → Nat → Int64} (o0 : Option Value) (o1 : Option Value) (o2 : Option Value)  : zeRun 169 7 [o0, o1, o2] [] (zk B im lm) = some (some (.int (-10000001)), (zk B im lm)) := ze_ret (ok := true) rfl 2 rfl rfl
theorem d_169_10 {B : zeB} {im : Nat → Nat → Int32} {lm : Nat → Nat → Int64} (l1 : Int32) (l2 : Int32)  : zeRun 169 10 [some (.ref 16), some (.int l1), some (.int l2)] [] (zk B im lm) = zeRun 169 (zeSw l2 95 [(0, 44), (1, 49), (2, 61), (3, 73), (4, 85)]) [some (.ref 16), some (.int l1), some (.int l2)] [] (zk B im lm) := ze_go (ok := true) rfl 2 rfl rfl
theorem d_169_44 {B : zeB} {im : Nat → Nat → Int32} {lm : Nat → Nat → Int64} (o0 : Option Value) (l1 : Int32) (o2 : Option Value)  : zeRun 169 44 [o0, some (.int l1), o2] [] (zk B im lm) = zeBh 169 48 [o0, some (.int l1), o2] [] (zeRun 41 0 [some (.int l1)] [] (zk B im lm)) := ze_call (ok := true) rfl 2 rfl rfl rfl
theorem d_169_48 {B : zeB} {im : Nat → Nat → Int32} {lm : Nat → Nat → Int64} (o0 : Option Value) (o1 : Option Value) (o2 : Option Value) (s0 : Int32)  : zeRun 169 48 [o0, o1, o2] [.int s0] (zk B im lm) = some (some (.int s0), (zk B im lm)) := ze_ret (ok := true) rfl 1 rfl rfl
theorem d_169_49 {B : zeB} {im : Nat → Nat → Int32} {lm : Nat → Nat → Int64} (l1 : Int32) (o2 : Option Value)  : zeRun 169 49 [some (.ref 16), some (.int l1), o2] [] (zk B im lm) = zeBh 169 60 [some (.ref 16), some (.int l1), o2] [] (zeRun 28 0 [some (.int (im 17 2)), some (.int l1)] [] (zk B im lm)) := ze_call (ok := true) rfl 5 rfl rfl rfl
theorem d_169_60 {B : zeB} {im : Nat → Nat → Int32} {lm : Nat → Nat → Int64} (o0 : Option Value) (o1 : Option Value) (o2 : Option Value) (s0 : Int32)  : zeRun 169 60 [o0, o1, o2] [.int s0] (zk B im lm) = some (some (.int s0), (zk B im lm)) := ze_ret (ok := true) rfl 1 rfl rfl
theorem d_169_61 {B : zeB} {im : Nat → Nat → Int32} {lm : Nat → Nat → Int64} (l1 : Int32) (o2 : Option Value)  : zeRun 169 61 [some (.ref 16), some (.int l1), o2] [] (zk B im lm) = zeBh 169 72 [some (.ref 16), some (.int l1), o2] [] (zeRun 28 0 [some (.int (im 17 3)), some (.int l1)] [] (zk B im lm)) := ze_call (ok := true) rfl 5 rfl rfl rfl
theorem d_169_72 {B : zeB} {im : Nat → Nat → Int32} {lm : Nat → Nat → Int64} (o0 : Option Value) (o1 : Option Value) (o2 : Option Value) (s0 : Int32)  : zeRun 169 72 [o0, o1, o2] [.int s0] (zk B im lm) = some (some (.int s0), (zk B im lm)) := ze_ret (ok := true) rfl 1 rfl rfl
theorem d_169_73 {B : zeB} {im : Nat → Nat → Int32} {lm : Nat → Nat → Int64} (l1 : Int32) (o2 : Option Value)  : zeRun 169 73 [some (.ref 16), some (.int l1), o2] [] (zk B im lm) = zeBh 169 84 [some (.ref 16), some (.int l1), o2] [] (zeRun 168 0 [some (.ref 26), some (.int l1), none, none] [] (zk B im lm)) := ze_call (ok := true) rfl 5 rfl rfl rfl
theorem d_169_84 {B : zeB} {im : Nat → Nat → Int32} {lm : Nat → Nat → Int64} (o0 : Option Value) (o1 : Option Value) (o2 : Option Value) (s0 : Int32)  : zeRun 169 84 [o0, o1, o2] [.int s0] (zk B im lm) = some (some (.int s0), (zk B im lm)) := ze_ret (ok := true) rfl 1 rfl rfl
theorem d_169_85 {B : zeB} {im : Nat → Nat → Int32} {lm : Nat → Nat → Int64} (l1 : Int32) (o2 : Option Value) (c0 : zeInb l1 25 = true) : zeRun 169 85 [some (.ref 16), some (.int l1), o2] [] (zk B im lm) = some (some (.int (im 37 (Int32.toNatClampNeg l1))), (zk B im lm)) := ze_ret (ok := (zeInb l1 25 && true)) rfl 6 rfl (zeA2 c0 rfl)
theorem d_169_95 {B : zeB} {im : Nat → Nat → Int32} {lm : Nat → Nat → Int64} (o0 : Option Value) (o1 : Option Value) (o2 : Option Value)  : zeRun 169 95 [o0, o1, o2] [] (zk B im lm) = some (some (.int (-10000002)), (zk B im lm)) := ze_ret (ok := true) rfl 2 rfl rfl
def m_169 (l1 : Int32) (l2 : Int32) (im : zI) (lm : zJ) : zR :=
    if (if l1 < 0 then 0 else if 25 ≤ l1 then 0 else 1 : Int32) = 0 then
      some ((-10000001), im, lm)
    else
      if l2 = 0 then
        some (((100 * ((l1 / 5) + 1)) : Int32), im, lm)
      else
        if l2 = 1 then
          some (((((im 17 2) >>> (l1 &&& 31)) &&& 1) : Int32), im, lm)
        else
          if l2 = 2 then
            some (((((im 17 3) >>> (l1 &&& 31)) &&& 1) : Int32), im, lm)
          else
            if l2 = 3 then
              zBd (m_168 l1 im lm) fun v5 im5 lm5 =>
              some (v5, im5, lm5)
            else
              if l2 = 4 then
                zCk (zeInb l1 25) <|
                some ((im 37 (Int32.toNatClampNeg l1)), im, lm)
              else
                some ((-10000002), im, lm)
theorem m_169_ok {B : zeB} (l1 : Int32) (l2 : Int32) (im : zI) (lm : zJ) : zL B 1 (m_169 l1 l2 im lm) (zeRun 169 0 [some (.ref 16), some (.int l1), some (.int l2)] [] (zk B im lm)) := by
  unfold m_169
  refine zL_bdp (e := (if l1 < 0 then 0 else if 25 ≤ l1 then 0 else 1 : Int32)) (d_169_0 _ _) (m_27_ok _ _ _) ?_
  refine zL_if (d_169_4 _ _ _) (fun h => ?_) (fun h => ?_)
  · skip
    exact zL_ret (d_169_7 _ _ _)
  · skip
    refine zL_eq (d_169_10 _ _) ?_
    refine zL_sw (fun h => ?_) (fun h => ?_)
    · skip
      refine zL_bdp (e := ((100 * ((l1 / 5) + 1)) : Int32)) (d_169_44 _ _ _) (m_41_ok _ _ _) ?_
      exact zL_ret (d_169_48 _ _ _ _)
    refine zL_sw (fun h => ?_) (fun h => ?_)
    · skip
      refine zL_bdp (e := ((((im 17 2) >>> (l1 &&& 31)) &&& 1) : Int32)) (d_169_49 _ _) (m_28_ok _ _ _ _) ?_
      exact zL_ret (d_169_60 _ _ _ _)
    refine zL_sw (fun h => ?_) (fun h => ?_)
    · skip
      refine zL_bdp (e := ((((im 17 3) >>> (l1 &&& 31)) &&& 1) : Int32)) (d_169_61 _ _) (m_28_ok _ _ _ _) ?_
      exact zL_ret (d_169_72 _ _ _ _)
    refine zL_sw (fun h => ?_) (fun h => ?_)
    · skip
      refine zL_bd (d_169_73 _ _) (m_168_ok _ _ _) fun v5 im5 lm5 => ?_
      exact zL_ret (d_169_84 _ _ _ _)
    refine zL_sw (fun h => ?_) (fun h => ?_)
    · skip
      refine zL_ck fun c1 => ?_
      exact zL_ret (d_169_85 _ _ c1)
    refine zL_swd ?_
    exact zL_ret (d_169_95 _ _ _)
/-! X7_doSetWagerClue -/
theorem d_30_0 {B : zeB} {im : Nat → Nat → Int32} {lm : Nat → Nat → Int64} (l1 : Int32) (l2 : Int32)  : zeRun 30 0 [some (.ref 16), some (.int l1), some (.int l2)] [] (zk B im lm) = zeBh 30 4 [some (.ref 16), some (.int l1), some (.int l2)] [] (zeRun 27 0 [some (.int l1)] [] (zk B im lm)) := ze_call (ok := true) rfl 2 rfl rfl rfl
theorem d_30_4 {B : zeB} {im : Nat → Nat → Int32} {lm : Nat → Nat → Int64} (l1 : Int32) (l2 : Int32) (s0 : Int32)  : zeRun 30 4 [some (.ref 16), some (.int l1), some (.int l2)] [.int s0] (zk B im lm) = if s0 = 0 then zeRun 30 7 [some (.ref 16), some (.int l1), some (.int l2)] [] (zk B im lm) else zeRun 30 10 [some (.ref 16), some (.int l1), some (.int l2)] [] (zk B im lm) := ze_if (ok := true) rfl 1 rfl rfl
theorem d_30_7 {B : zeB} {im : Nat → Nat → Int32} {lm : Nat → Nat → Int64} (o0 : Option Value) (o1 : Option Value) (o2 : Option Value)  : zeRun 30 7 [o0, o1, o2] [] (zk B im lm) = some (some (.int (-10000001)), (zk B im lm)) := ze_ret (ok := true) rfl 2 rfl rfl
theorem d_30_10 {B : zeB} {im : Nat → Nat → Int32} {lm : Nat → Nat → Int64} (l1 : Int32) (l2 : Int32)  : zeRun 30 10 [some (.ref 16), some (.int l1), some (.int l2)] [] (zk B im lm) = zeBh 30 14 [some (.ref 16), some (.int l1), some (.int l2)] [] (zeRun 16 0 [some (.ref 16)] [] (zk B im lm)) := ze_call (ok := true) rfl 2 rfl rfl rfl
theorem d_30_14 {B : zeB} {im : Nat → Nat → Int32} {lm : Nat → Nat → Int64} (l1 : Int32) (l2 : Int32) (s0 : Int32)  : zeRun 30 14 [some (.ref 16), some (.int l1), some (.int l2)] [.int s0] (zk B im lm) = if s0 = 0 then zeRun 30 17 [some (.ref 16), some (.int l1), some (.int l2)] [] (zk B im lm) else zeRun 30 23 [some (.ref 16), some (.int l1), some (.int l2)] [] (zk B im lm) := ze_if (ok := true) rfl 1 rfl rfl
theorem d_30_17 {B : zeB} {im : Nat → Nat → Int32} {lm : Nat → Nat → Int64} (o1 : Option Value) (o2 : Option Value)  : zeRun 30 17 [some (.ref 16), o1, o2] [] (zk B im lm) = zeBh 30 22 [some (.ref 16), o1, o2] [] (zeRun 17 0 [some (.ref 16), some (.int 1)] [] (zk B im lm)) := ze_call (ok := true) rfl 3 rfl rfl rfl
theorem d_30_22 {B : zeB} {im : Nat → Nat → Int32} {lm : Nat → Nat → Int64} (o0 : Option Value) (o1 : Option Value) (o2 : Option Value) (s0 : Int32)  : zeRun 30 22 [o0, o1, o2] [.int s0] (zk B im lm) = some (some (.int s0), (zk B im lm)) := ze_ret (ok := true) rfl 1 rfl rfl
theorem d_30_23 {B : zeB} {im : Nat → Nat → Int32} {lm : Nat → Nat → Int64} (l1 : Int32) (l2 : Int32)  : zeRun 30 23 [some (.ref 16), some (.int l1), some (.int l2)] [] (zk B im lm) = zeBh 30 34 [some (.ref 16), some (.int l1), some (.int l2)] [] (zeRun 28 0 [some (.int (im 17 2)), some (.int l1)] [] (zk B im lm)) := ze_call (ok := true) rfl 5 rfl rfl rfl
theorem d_30_34 {B : zeB} {im : Nat → Nat → Int32} {lm : Nat → Nat → Int64} (l1 : Int32) (l2 : Int32) (s0 : Int32)  : zeRun 30 34 [some (.ref 16), some (.int l1), some (.int l2)] [.int s0] (zk B im lm) = if s0 = 1 then zeRun 30 38 [some (.ref 16), some (.int l1), some (.int l2)] [] (zk B im lm) else zeRun 30 42 [some (.ref 16), some (.int l1), some (.int l2)] [] (zk B im lm) := ze_if (ok := true) rfl 2 rfl rfl
theorem d_30_38 {B : zeB} {im : Nat → Nat → Int32} {lm : Nat → Nat → Int64} (l1 : Int32) (l2 : Int32)  : zeRun 30 38 [some (.ref 16), some (.int l1), some (.int l2)] [] (zk B im lm) = zeRun 30 43 [some (.ref 16), some (.int l1), some (.int l2)] [.int 1] (zk B im lm) := ze_go (ok := true) rfl 2 rfl rfl
theorem d_30_42 {B : zeB} {im : Nat → Nat → Int32} {lm : Nat → Nat → Int64} (l1 : Int32) (l2 : Int32)  : zeRun 30 42 [some (.ref 16), some (.int l1), some (.int l2)] [] (zk B im lm) = zeRun 30 43 [some (.ref 16), some (.int l1), some (.int l2)] [.int 0] (zk B im lm) := ze_go (ok := true) rfl 1 rfl rfl
theorem d_30_43 {B : zeB} {im : Nat → Nat → Int32} {lm : Nat → Nat → Int64} (l1 : Int32) (l2 : Int32) (s0 : Int32)  : zeRun 30 43 [some (.ref 16), some (.int l1), some (.int l2)] [.int s0] (zk B im lm) = if s0 = l2 then zeRun 30 47 [some (.ref 16), some (.int l1), some (.int l2)] [] (zk B im lm) else zeRun 30 50 [some (.ref 16), some (.int l1), some (.int l2)] [] (zk B im lm) := ze_if (ok := true) rfl 2 rfl rfl
theorem d_30_47 {B : zeB} {im : Nat → Nat → Int32} {lm : Nat → Nat → Int64} (o0 : Option Value) (o1 : Option Value) (o2 : Option Value)  : zeRun 30 47 [o0, o1, o2] [] (zk B im lm) = some (some (.int (-10000005)), (zk B im lm)) := ze_ret (ok := true) rfl 2 rfl rfl
theorem d_30_50 {B : zeB} {im : Nat → Nat → Int32} {lm : Nat → Nat → Int64} (l1 : Int32) (o2 : Option Value)  : zeRun 30 50 [some (.ref 16), some (.int l1), o2] [] (zk B im lm) = zeBh 30 75 [some (.ref 16), some (.int l1), o2] [] (zeRun 29 0 [some (.int ((im 17 2) ^^^ (1 <<< (l1 &&& 31))))] [] (zk B (zeU2 im 17 2 ((im 17 2) ^^^ (1 <<< (l1 &&& 31)))) lm)) := ze_call (ok := true) rfl 13 rfl rfl rfl
theorem d_30_75 {B : zeB} {im : Nat → Nat → Int32} {lm : Nat → Nat → Int64} (o0 : Option Value) (o1 : Option Value) (o2 : Option Value) (s0 : Int32)  : zeRun 30 75 [o0, o1, o2] [.int s0] (zk B im lm) = some (some (.int s0), (zk B im lm)) := ze_ret (ok := true) rfl 1 rfl rfl
def J_30_43  (l1 : Int32) (l2 : Int32) (s0 : Int32) (im : zI) (lm : zJ) : zR :=
    if s0 = l2 then
      some ((-10000005), im, lm)
    else
      zBd (m_29 ((im 17 2) ^^^ (1 <<< (l1 &&& 31))) (zeU2 im 17 2 ((im 17 2) ^^^ (1 <<< (l1 &&& 31)))) lm) fun v1 im1 lm1 =>
      some (v1, im1, lm1)
theorem J_30_43_ok {B : zeB} (l1 : Int32) (l2 : Int32) (s0 : Int32)  (im : zI) (lm : zJ) : zL B 1 (J_30_43  l1 l2 s0 im lm) (zeRun 30 43 [some (.ref 16), some (.int l1), some (.int l2)] [.int s0] (zk B im lm)) := by
  unfold J_30_43
  refine zL_if (d_30_43 _ _ _) (fun h => ?_) (fun h => ?_)
  · skip
    exact zL_ret (d_30_47 _ _ _)
  · skip
    refine zL_bd (d_30_50 _ _) (m_29_ok _ _ _) fun v1 im1 lm1 => ?_
    exact zL_ret (d_30_75 _ _ _ _)
def m_30 (l1 : Int32) (l2 : Int32) (im : zI) (lm : zJ) : zR :=
    if (if l1 < 0 then 0 else if 25 ≤ l1 then 0 else 1 : Int32) = 0 then
      some ((-10000001), im, lm)
    else
      if (if (im 17 0) = 0 then if (im 17 3) = 0 then 1 else 0 else 0 : Int32) = 0 then
        zBd (m_17 1 im lm) fun v3 im3 lm3 =>
        some (v3, im3, lm3)
      else
        J_30_43   l1 l2 (if ((((im 17 2) >>> (l1 &&& 31)) &&& 1) : Int32) = 1 then 1 else 0) im lm
theorem m_30_ok {B : zeB} (l1 : Int32) (l2 : Int32) (im : zI) (lm : zJ) : zL B 1 (m_30 l1 l2 im lm) (zeRun 30 0 [some (.ref 16), some (.int l1), some (.int l2)] [] (zk B im lm)) := by
  unfold m_30
  refine zL_bdp (e := (if l1 < 0 then 0 else if 25 ≤ l1 then 0 else 1 : Int32)) (d_30_0 _ _) (m_27_ok _ _ _) ?_
  refine zL_if (d_30_4 _ _ _) (fun h => ?_) (fun h => ?_)
  · skip
    exact zL_ret (d_30_7 _ _ _)
  · skip
    refine zL_bdp (e := (if (im 17 0) = 0 then if (im 17 3) = 0 then 1 else 0 else 0 : Int32)) (d_30_10 _ _) (m_16_ok _ _) ?_
    refine zL_if (d_30_14 _ _ _) (fun h => ?_) (fun h => ?_)
    · skip
      refine zL_bd (d_30_17 _ _) (m_17_ok _ _ _) fun v3 im3 lm3 => ?_
      exact zL_ret (d_30_22 _ _ _ _)
    · skip
      refine zL_bdp (e := ((((im 17 2) >>> (l1 &&& 31)) &&& 1) : Int32)) (d_30_23 _ _) (m_28_ok _ _ _ _) ?_
      refine zL_ifm (d_30_34 _ _ _) (fun h => ?_) (fun h => ?_)
      · repeat rw [if_pos h]
        refine zL_eq (d_30_38 _ _) ?_
        exact J_30_43_ok   _ _ _ _ _
      · repeat rw [if_neg h]
        refine zL_eq (d_30_42 _ _) ?_
        exact J_30_43_ok   _ _ _ _ _
/-! X7_setWagerClue -/
theorem d_31_0 {B : zeB} {im : Nat → Nat → Int32} {lm : Nat → Nat → Int64} (l1 : Int32) (l2 : Int32)  : zeRun 31 0 [some (.ref 16), some (.int l1), some (.int l2)] [] (zk B im lm) = zeBh 31 11 [some (.ref 16), some (.int l1), some (.int l2)] [] (zeRun 15 0 [some (.ref 42), some (.ref 17)] [] (zk B im lm)) := ze_call (ok := true) rfl 5 rfl rfl rfl
theorem d_31_11 {B : zeB} {im : Nat → Nat → Int32} {lm : Nat → Nat → Int64} (l1 : Int32) (l2 : Int32)  : zeRun 31 11 [some (.ref 16), some (.int l1), some (.int l2)] [] (zk B im lm) = zeBh 31 18 [some (.ref 16), some (.int l1), some (.int l2)] [.ref 16] (zeRun 30 0 [some (.ref 16), some (.int l1), some (.int l2)] [] (zk B im lm)) := ze_call (ok := true) rfl 5 rfl rfl rfl
theorem d_31_18 {B : zeB} {im : Nat → Nat → Int32} {lm : Nat → Nat → Int64} (o0 : Option Value) (o1 : Option Value) (o2 : Option Value) (s1 : Int32)  : zeRun 31 18 [o0, o1, o2] [.int s1, .ref 16] (zk B im lm) = zeBh 31 21 [o0, o1, o2] [] (zeRun 21 0 [some (.ref 16), some (.int s1)] [] (zk B im lm)) := ze_call (ok := true) rfl 1 rfl rfl rfl
theorem d_31_21 {B : zeB} {im : Nat → Nat → Int32} {lm : Nat → Nat → Int64} (o0 : Option Value) (o1 : Option Value) (o2 : Option Value) (s0 : Int32)  : zeRun 31 21 [o0, o1, o2] [.int s0] (zk B im lm) = some (some (.int s0), (zk B im lm)) := ze_ret (ok := true) rfl 1 rfl rfl
def m_31 (l1 : Int32) (l2 : Int32) (im : zI) (lm : zJ) : zR :=
    zBd (m_15  im lm) fun _ im1 lm1 =>
    zBd (m_30 l1 l2 im1 lm1) fun v2 im2 lm2 =>
    zBd (m_21 v2 im2 lm2) fun v3 im3 lm3 =>
    some (v3, im3, lm3)
theorem m_31_ok {B : zeB} (l1 : Int32) (l2 : Int32) (im : zI) (lm : zJ) : zL B 1 (m_31 l1 l2 im lm) (zeRun 31 0 [some (.ref 16), some (.int l1), some (.int l2)] [] (zk B im lm)) := by
  unfold m_31
  refine zL_bdv (d_31_0 _ _) (m_15_ok _ _) fun _ im1 lm1 => ?_
  refine zL_bd (d_31_11 _ _) (m_30_ok _ _ _ _) fun v2 im2 lm2 => ?_
  refine zL_bd (d_31_18 _ _ _ _) (m_21_ok _ _ _) fun v3 im3 lm3 => ?_
  exact zL_ret (d_31_21 _ _ _ _)
/-! L_wagers -/
theorem d_190_0 {B : zeB} {im : Nat → Nat → Int32} {lm : Nat → Nat → Int64} (o1 : Option Value) (o2 : Option Value)  : zeRun 190 0 [some (.ref 16), o1, o2] [] (zk B im lm) = zeRun 190 4 [some (.ref 16), some (.int 0), some (.int 0)] [] (zk B im lm) := ze_go (ok := true) rfl 4 rfl rfl
theorem d_190_4 {B : zeB} {im : Nat → Nat → Int32} {lm : Nat → Nat → Int64} (l1 : Int32) (l2 : Int32)  : zeRun 190 4 [some (.ref 16), some (.int l1), some (.int l2)] [] (zk B im lm) = if 25 ≤ l2 then zeRun 190 25 [some (.ref 16), some (.int l1), some (.int l2)] [] (zk B im lm) else zeRun 190 10 [some (.ref 16), some (.int l1), some (.int l2)] [] (zk B im lm) := ze_if (ok := true) rfl 3 rfl rfl
theorem d_190_25 {B : zeB} {im : Nat → Nat → Int32} {lm : Nat → Nat → Int64} (o0 : Option Value) (l1 : Int32) (o2 : Option Value)  : zeRun 190 25 [o0, some (.int l1), o2] [] (zk B im lm) = some (some (.int l1), (zk B im lm)) := ze_ret (ok := true) rfl 2 rfl rfl
theorem d_190_10 {B : zeB} {im : Nat → Nat → Int32} {lm : Nat → Nat → Int64} (l1 : Int32) (l2 : Int32)  : zeRun 190 10 [some (.ref 16), some (.int l1), some (.int l2)] [] (zk B im lm) = zeBh 190 17 [some (.ref 16), some (.int l1), some (.int l2)] [.int l1] (zeRun 169 0 [some (.ref 16), some (.int l2), some (.int 1)] [] (zk B im lm)) := ze_call (ok := true) rfl 5 rfl rfl rfl
theorem d_190_17 {B : zeB} {im : Nat → Nat → Int32} {lm : Nat → Nat → Int64} (o1 : Option Value) (l2 : Int32) (s0 : Int32) (s1 : Int32)  : zeRun 190 17 [some (.ref 16), o1, some (.int l2)] [.int s1, .int s0] (zk B im lm) = zeRun 190 4 [some (.ref 16), some (.int (s0 + s1)), some (.int (l2 + 1))] [] (zk B im lm) := ze_go (ok := true) rfl 4 rfl rfl
def F_190_4  : Nat → Int32 → Int32 → zI → zJ → zR
  | 0, _, _, _, _ => none
  | n + 1, l1, l2, im, lm =>
    if 25 ≤ l2 then
      some (l1, im, lm)
    else
      zBd (m_169 l2 1 im lm) fun v1 im1 lm1 =>
      F_190_4  n (l1 + v1) (l2 + 1) im1 lm1
theorem F_190_4_ok {B : zeB} : ∀ (n : Nat) (l1 : Int32) (l2 : Int32)  (im : zI) (lm : zJ), zL B 1 (F_190_4  n l1 l2 im lm) (zeRun 190 4 [some (.ref 16), some (.int l1), some (.int l2)] [] (zk B im lm)) := by
  intro n
  induction n with
  | zero => intros; exact zL_none
  | succ n ih =>
    intro l1 l2 im lm
    unfold F_190_4
    refine zL_if (d_190_4 _ _) (fun h => ?_) (fun h => ?_)
    · skip
      exact zL_ret (d_190_25 _ _ _)
    · skip
      refine zL_bd (d_190_10 _ _) (m_169_ok _ _ _ _) fun v1 im1 lm1 => ?_
      refine zL_eq (d_190_17 _ _ _ _) ?_
      exact ih _ _ _ _
def m_190  (im : zI) (lm : zJ) : zR :=
    F_190_4  2000 0 0 im lm
theorem m_190_ok {B : zeB}  (im : zI) (lm : zJ) : zL B 1 (m_190  im lm) (zeRun 190 0 [some (.ref 16), none, none] [] (zk B im lm)) := by
  unfold m_190
  refine zL_eq (d_190_0 _ _) ?_
  exact F_190_4_ok  _ _ _ _ _
/-! X7_isQueued -/
theorem d_56_0 {B : zeB} {im : Nat → Nat → Int32} {lm : Nat → Nat → Int64} (l1 : Int32)  : zeRun 56 0 [some (.ref 16), some (.int l1)] [] (zk B im lm) = if (im 17 0) = 1 then zeRun 56 11 [some (.ref 16), some (.int l1)] [] (zk B im lm) else zeRun 56 49 [some (.ref 16), some (.int l1)] [] (zk B im lm) := ze_if (ok := true) rfl 5 rfl rfl
theorem d_56_11 {B : zeB} {im : Nat → Nat → Int32} {lm : Nat → Nat → Int64} (l1 : Int32) (c0 : zeInb l1 6 = true) : zeRun 56 11 [some (.ref 16), some (.int l1)] [] (zk B im lm) = if (im 20 (Int32.toNatClampNeg l1)) = (-10000005) then zeRun 56 49 [some (.ref 16), some (.int l1)] [] (zk B im lm) else zeRun 56 28 [some (.ref 16), some (.int l1)] [] (zk B im lm) := ze_if (ok := (zeInb l1 6 && true)) rfl 8 rfl (zeA2 c0 rfl)
theorem d_56_49 {B : zeB} {im : Nat → Nat → Int32} {lm : Nat → Nat → Int64} (o0 : Option Value) (o1 : Option Value)  : zeRun 56 49 [o0, o1] [] (zk B im lm) = some (some (.int 0), (zk B im lm)) := ze_ret (ok := true) rfl 2 rfl rfl
theorem d_56_28 {B : zeB} {im : Nat → Nat → Int32} {lm : Nat → Nat → Int64} (l1 : Int32)  : zeRun 56 28 [some (.ref 16), some (.int l1)] [] (zk B im lm) = zeBh 56 42 [some (.ref 16), some (.int l1)] [] (zeRun 28 0 [some (.int (im 19 4)), some (.int l1)] [] (zk B im lm)) := ze_call (ok := true) rfl 6 rfl rfl rfl
theorem d_56_42 {B : zeB} {im : Nat → Nat → Int32} {lm : Nat → Nat → Int64} (o0 : Option Value) (o1 : Option Value) (s0 : Int32)  : zeRun 56 42 [o0, o1] [.int s0] (zk B im lm) = if s0 = 0 then zeRun 56 45 [o0, o1] [] (zk B im lm) else zeRun 56 49 [o0, o1] [] (zk B im lm) := ze_if (ok := true) rfl 1 rfl rfl
theorem d_56_45 {B : zeB} {im : Nat → Nat → Int32} {lm : Nat → Nat → Int64} (o0 : Option Value) (o1 : Option Value)  : zeRun 56 45 [o0, o1] [] (zk B im lm) = some (some (.int 1), (zk B im lm)) := ze_ret (ok := true) rfl 3 rfl rfl
def m_56 (l1 : Int32) (im : zI) (lm : zJ) : zR :=
    zCk (if (im 17 0) = 1 then zeInb l1 6 else true) <|
    some (if (im 17 0) = 1 then if (im 20 (Int32.toNatClampNeg l1)) = (-10000005) then 0 else if ((((im 19 4) >>> (l1 &&& 31)) &&& 1) : Int32) = 0 then 1 else 0 else 0, im, lm)
theorem m_56_ok {B : zeB} (l1 : Int32) (im : zI) (lm : zJ) : zL B 1 (m_56 l1 im lm) (zeRun 56 0 [some (.ref 16), some (.int l1)] [] (zk B im lm)) := by
  unfold m_56
  refine zL_ifm (d_56_0 _) (fun h => ?_) (fun h => ?_)
  · repeat rw [if_pos h]
    refine zL_ck fun c1 => ?_
    refine zL_ifm (d_56_11 _ c1) (fun h => ?_) (fun h => ?_)
    · repeat rw [if_pos h]
      exact zL_ret (d_56_49 _ _)
    · repeat rw [if_neg h]
      refine zL_bdp (e := ((((im 19 4) >>> (l1 &&& 31)) &&& 1) : Int32)) (d_56_28 _) (m_28_ok _ _ _ _) ?_
      refine zL_ifm (d_56_42 _ _ _) (fun h => ?_) (fun h => ?_)
      · repeat rw [if_pos h]
        exact zL_ret (d_56_45 _ _)
      · repeat rw [if_neg h]
        exact zL_ret (d_56_49 _ _)
  · repeat rw [if_neg h]
    refine zL_ckt ?_
    exact zL_ret (d_56_49 _ _)
/-! X7_isQueuedAhead -/
theorem d_67_0 {B : zeB} {im : Nat → Nat → Int32} {lm : Nat → Nat → Int64} (l1 : Int32) (l2 : Int32) (o3 : Option Value) (o4 : Option Value) (c0 : zeInb l1 6 = true) (c1 : zeInb l2 6 = true) : zeRun 67 0 [some (.ref 16), some (.int l1), some (.int l2), o3, o4] [] (zk B im lm) = if (im 20 (Int32.toNatClampNeg l1)) = (im 20 (Int32.toNatClampNeg l2)) then zeRun 67 45 [some (.ref 16), some (.int l1), some (.int l2), some (.int (im 20 (Int32.toNatClampNeg l1))), some (.int (im 20 (Int32.toNatClampNeg l2)))] [] (zk B im lm) else zeRun 67 33 [some (.ref 16), some (.int l1), some (.int l2), some (.int (im 20 (Int32.toNatClampNeg l1))), some (.int (im 20 (Int32.toNatClampNeg l2)))] [] (zk B im lm) := ze_if (ok := (zeInb l2 6 && (zeInb l1 6 && true))) rfl 17 rfl (zeA2 c1 (zeA2 c0 rfl))
theorem d_67_45 {B : zeB} {im : Nat → Nat → Int32} {lm : Nat → Nat → Int64} (l1 : Int32) (l2 : Int32) (o3 : Option Value) (o4 : Option Value) (c0 : zeInb l1 6 = true) (c1 : zeInb l2 6 = true) : zeRun 67 45 [some (.ref 16), some (.int l1), some (.int l2), o3, o4] [] (zk B im lm) = if (im 33 (Int32.toNatClampNeg l1)) = (im 33 (Int32.toNatClampNeg l2)) then zeRun 67 93 [some (.ref 16), some (.int l1), some (.int l2), o3, o4] [] (zk B im lm) else zeRun 67 66 [some (.ref 16), some (.int l1), some (.int l2), o3, o4] [] (zk B im lm) := ze_if (ok := (zeInb l2 6 && (zeInb l1 6 && true))) rfl 11 rfl (zeA2 c1 (zeA2 c0 rfl))
theorem d_67_93 {B : zeB} {im : Nat → Nat → Int32} {lm : Nat → Nat → Int64} (o0 : Option Value) (l1 : Int32) (l2 : Int32) (o3 : Option Value) (o4 : Option Value)  : zeRun 67 93 [o0, some (.int l1), some (.int l2), o3, o4] [] (zk B im lm) = if l2 ≤ l1 then zeRun 67 102 [o0, some (.int l1), some (.int l2), o3, o4] [] (zk B im lm) else zeRun 67 98 [o0, some (.int l1), some (.int l2), o3, o4] [] (zk B im lm) := ze_if (ok := true) rfl 3 rfl rfl
theorem d_67_102 {B : zeB} {im : Nat → Nat → Int32} {lm : Nat → Nat → Int64} (o0 : Option Value) (o1 : Option Value) (o2 : Option Value) (o3 : Option Value) (o4 : Option Value)  : zeRun 67 102 [o0, o1, o2, o3, o4] [] (zk B im lm) = some (some (.int 0), (zk B im lm)) := ze_ret (ok := true) rfl 2 rfl rfl
theorem d_67_98 {B : zeB} {im : Nat → Nat → Int32} {lm : Nat → Nat → Int64} (o0 : Option Value) (o1 : Option Value) (o2 : Option Value) (o3 : Option Value) (o4 : Option Value)  : zeRun 67 98 [o0, o1, o2, o3, o4] [] (zk B im lm) = some (some (.int 1), (zk B im lm)) := ze_ret (ok := true) rfl 3 rfl rfl
theorem d_67_66 {B : zeB} {im : Nat → Nat → Int32} {lm : Nat → Nat → Int64} (l1 : Int32) (l2 : Int32) (o3 : Option Value) (o4 : Option Value) (c0 : zeInb l1 6 = true) (c1 : zeInb l2 6 = true) : zeRun 67 66 [some (.ref 16), some (.int l1), some (.int l2), o3, o4] [] (zk B im lm) = if (im 33 (Int32.toNatClampNeg l2)) ≤ (im 33 (Int32.toNatClampNeg l1)) then zeRun 67 91 [some (.ref 16), some (.int l1), some (.int l2), o3, o4] [] (zk B im lm) else zeRun 67 87 [some (.ref 16), some (.int l1), some (.int l2), o3, o4] [] (zk B im lm) := ze_if (ok := (zeInb l2 6 && (zeInb l1 6 && true))) rfl 11 rfl (zeA2 c1 (zeA2 c0 rfl))
theorem d_67_91 {B : zeB} {im : Nat → Nat → Int32} {lm : Nat → Nat → Int64} (o0 : Option Value) (o1 : Option Value) (o2 : Option Value) (o3 : Option Value) (o4 : Option Value)  : zeRun 67 91 [o0, o1, o2, o3, o4] [] (zk B im lm) = some (some (.int 0), (zk B im lm)) := ze_ret (ok := true) rfl 2 rfl rfl
theorem d_67_87 {B : zeB} {im : Nat → Nat → Int32} {lm : Nat → Nat → Int64} (o0 : Option Value) (o1 : Option Value) (o2 : Option Value) (o3 : Option Value) (o4 : Option Value)  : zeRun 67 87 [o0, o1, o2, o3, o4] [] (zk B im lm) = some (some (.int 1), (zk B im lm)) := ze_ret (ok := true) rfl 3 rfl rfl
theorem d_67_33 {B : zeB} {im : Nat → Nat → Int32} {lm : Nat → Nat → Int64} (o0 : Option Value) (o1 : Option Value) (o2 : Option Value) (l3 : Int32) (l4 : Int32)  : zeRun 67 33 [o0, o1, o2, some (.int l3), some (.int l4)] [] (zk B im lm) = if l4 ≤ l3 then zeRun 67 43 [o0, o1, o2, some (.int l3), some (.int l4)] [] (zk B im lm) else zeRun 67 39 [o0, o1, o2, some (.int l3), some (.int l4)] [] (zk B im lm) := ze_if (ok := true) rfl 3 rfl rfl
theorem d_67_43 {B : zeB} {im : Nat → Nat → Int32} {lm : Nat → Nat → Int64} (o0 : Option Value) (o1 : Option Value) (o2 : Option Value) (o3 : Option Value) (o4 : Option Value)  : zeRun 67 43 [o0, o1, o2, o3, o4] [] (zk B im lm) = some (some (.int 0), (zk B im lm)) := ze_ret (ok := true) rfl 2 rfl rfl
theorem d_67_39 {B : zeB} {im : Nat → Nat → Int32} {lm : Nat → Nat → Int64} (o0 : Option Value) (o1 : Option Value) (o2 : Option Value) (o3 : Option Value) (o4 : Option Value)  : zeRun 67 39 [o0, o1, o2, o3, o4] [] (zk B im lm) = some (some (.int 1), (zk B im lm)) := ze_ret (ok := true) rfl 3 rfl rfl
def m_67 (l1 : Int32) (l2 : Int32) (im : zI) (lm : zJ) : zR :=
    zCk (zeInb l1 6) <|
    zCk (zeInb l2 6) <|
    some (if (im 20 (Int32.toNatClampNeg l1)) = (im 20 (Int32.toNatClampNeg l2)) then if (im 33 (Int32.toNatClampNeg l1)) = (im 33 (Int32.toNatClampNeg l2)) then if l2 ≤ l1 then 0 else 1 else if (im 33 (Int32.toNatClampNeg l2)) ≤ (im 33 (Int32.toNatClampNeg l1)) then 0 else 1 else if (im 20 (Int32.toNatClampNeg l2)) ≤ (im 20 (Int32.toNatClampNeg l1)) then 0 else 1, im, lm)
theorem m_67_ok {B : zeB} (l1 : Int32) (l2 : Int32) (im : zI) (lm : zJ) : zL B 1 (m_67 l1 l2 im lm) (zeRun 67 0 [some (.ref 16), some (.int l1), some (.int l2), none, none] [] (zk B im lm)) := by
  unfold m_67
  refine zL_ck fun c1 => ?_
  refine zL_ck fun c2 => ?_
  refine zL_ifm (d_67_0 _ _ _ _ c1 c2) (fun h => ?_) (fun h => ?_)
  · repeat rw [if_pos h]
    refine zL_ifm (d_67_45 _ _ _ _ c1 c2) (fun h => ?_) (fun h => ?_)
    · repeat rw [if_pos h]
      refine zL_ifm (d_67_93 _ _ _ _ _) (fun h => ?_) (fun h => ?_)
      · repeat rw [if_pos h]
        exact zL_ret (d_67_102 _ _ _ _ _)
      · repeat rw [if_neg h]
        exact zL_ret (d_67_98 _ _ _ _ _)
    · repeat rw [if_neg h]
      refine zL_ifm (d_67_66 _ _ _ _ c1 c2) (fun h => ?_) (fun h => ?_)
      · repeat rw [if_pos h]
        exact zL_ret (d_67_91 _ _ _ _ _)
      · repeat rw [if_neg h]
        exact zL_ret (d_67_87 _ _ _ _ _)
  · repeat rw [if_neg h]
    refine zL_ifm (d_67_33 _ _ _ _ _) (fun h => ?_) (fun h => ?_)
    · repeat rw [if_pos h]
      exact zL_ret (d_67_43 _ _ _ _ _)
    · repeat rw [if_neg h]
      exact zL_ret (d_67_39 _ _ _ _ _)
/-! X7_queuePlaceOf -/
theorem d_68_0 {B : zeB} {im : Nat → Nat → Int32} {lm : Nat → Nat → Int64} (l1 : Int32) (o2 : Option Value) (o3 : Option Value)  : zeRun 68 0 [some (.ref 16), some (.int l1), o2, o3] [] (zk B im lm) = zeRun 68 4 [some (.ref 16), some (.int l1), some (.int 0), some (.int 0)] [] (zk B im lm) := ze_go (ok := true) rfl 4 rfl rfl
theorem d_68_4 {B : zeB} {im : Nat → Nat → Int32} {lm : Nat → Nat → Int64} (l1 : Int32) (l2 : Int32) (l3 : Int32)  : zeRun 68 4 [some (.ref 16), some (.int l1), some (.int l2), some (.int l3)] [] (zk B im lm) = if (im 17 1) ≤ l3 then zeRun 68 41 [some (.ref 16), some (.int l1), some (.int l2), some (.int l3)] [] (zk B im lm) else zeRun 68 15 [some (.ref 16), some (.int l1), some (.int l2), some (.int l3)] [] (zk B im lm) := ze_if (ok := true) rfl 5 rfl rfl
theorem d_68_41 {B : zeB} {im : Nat → Nat → Int32} {lm : Nat → Nat → Int64} (o0 : Option Value) (o1 : Option Value) (l2 : Int32) (o3 : Option Value)  : zeRun 68 41 [o0, o1, some (.int l2), o3] [] (zk B im lm) = some (some (.int l2), (zk B im lm)) := ze_ret (ok := true) rfl 2 rfl rfl
theorem d_68_15 {B : zeB} {im : Nat → Nat → Int32} {lm : Nat → Nat → Int64} (l1 : Int32) (l2 : Int32) (l3 : Int32)  : zeRun 68 15 [some (.ref 16), some (.int l1), some (.int l2), some (.int l3)] [] (zk B im lm) = zeBh 68 20 [some (.ref 16), some (.int l1), some (.int l2), some (.int l3)] [] (zeRun 56 0 [some (.ref 16), some (.int l3)] [] (zk B im lm)) := ze_call (ok := true) rfl 3 rfl rfl rfl
theorem d_68_20 {B : zeB} {im : Nat → Nat → Int32} {lm : Nat → Nat → Int64} (l1 : Int32) (l2 : Int32) (l3 : Int32) (s0 : Int32)  : zeRun 68 20 [some (.ref 16), some (.int l1), some (.int l2), some (.int l3)] [.int s0] (zk B im lm) = if s0 = 0 then zeRun 68 35 [some (.ref 16), some (.int l1), some (.int l2), some (.int l3)] [] (zk B im lm) else zeRun 68 23 [some (.ref 16), some (.int l1), some (.int l2), some (.int l3)] [] (zk B im lm) := ze_if (ok := true) rfl 1 rfl rfl
theorem d_68_35 {B : zeB} {im : Nat → Nat → Int32} {lm : Nat → Nat → Int64} (l1 : Int32) (l2 : Int32) (l3 : Int32)  : zeRun 68 35 [some (.ref 16), some (.int l1), some (.int l2), some (.int l3)] [] (zk B im lm) = zeRun 68 4 [some (.ref 16), some (.int l1), some (.int l2), some (.int (l3 + 1))] [] (zk B im lm) := ze_go (ok := true) rfl 2 rfl rfl
theorem d_68_23 {B : zeB} {im : Nat → Nat → Int32} {lm : Nat → Nat → Int64} (l1 : Int32) (l2 : Int32) (l3 : Int32)  : zeRun 68 23 [some (.ref 16), some (.int l1), some (.int l2), some (.int l3)] [] (zk B im lm) = zeBh 68 29 [some (.ref 16), some (.int l1), some (.int l2), some (.int l3)] [] (zeRun 67 0 [some (.ref 16), some (.int l3), some (.int l1), none, none] [] (zk B im lm)) := ze_call (ok := true) rfl 4 rfl rfl rfl
theorem d_68_29 {B : zeB} {im : Nat → Nat → Int32} {lm : Nat → Nat → Int64} (l1 : Int32) (l2 : Int32) (l3 : Int32) (s0 : Int32)  : zeRun 68 29 [some (.ref 16), some (.int l1), some (.int l2), some (.int l3)] [.int s0] (zk B im lm) = if s0 = 0 then zeRun 68 35 [some (.ref 16), some (.int l1), some (.int l2), some (.int l3)] [] (zk B im lm) else zeRun 68 32 [some (.ref 16), some (.int l1), some (.int l2), some (.int l3)] [] (zk B im lm) := ze_if (ok := true) rfl 1 rfl rfl
theorem d_68_32 {B : zeB} {im : Nat → Nat → Int32} {lm : Nat → Nat → Int64} (l1 : Int32) (l2 : Int32) (l3 : Int32)  : zeRun 68 32 [some (.ref 16), some (.int l1), some (.int l2), some (.int l3)] [] (zk B im lm) = zeRun 68 4 [some (.ref 16), some (.int l1), some (.int (l2 + 1)), some (.int (l3 + 1))] [] (zk B im lm) := ze_go (ok := true) rfl 3 rfl rfl
def F_68_4  : Nat → Int32 → Int32 → Int32 → zI → zJ → zR
  | 0, _, _, _, _, _ => none
  | n + 1, l1, l2, l3, im, lm =>
    if (im 17 1) ≤ l3 then
      some (l2, im, lm)
    else
      zBd (m_56 l3 im lm) fun v1 im1 lm1 =>
      if v1 = 0 then
        F_68_4  n l1 l2 (l3 + 1) im1 lm1
      else
        zBd (m_67 l3 l1 im1 lm1) fun v2 im2 lm2 =>
        F_68_4  n l1 (if v2 = 0 then l2 else (l2 + 1)) (l3 + 1) im2 lm2
theorem F_68_4_ok {B : zeB} : ∀ (n : Nat) (l1 : Int32) (l2 : Int32) (l3 : Int32)  (im : zI) (lm : zJ), zL B 1 (F_68_4  n l1 l2 l3 im lm) (zeRun 68 4 [some (.ref 16), some (.int l1), some (.int l2), some (.int l3)] [] (zk B im lm)) := by
  intro n
  induction n with
  | zero => intros; exact zL_none
  | succ n ih =>
    intro l1 l2 l3 im lm
    unfold F_68_4
    refine zL_if (d_68_4 _ _ _) (fun h => ?_) (fun h => ?_)
    · skip
      exact zL_ret (d_68_41 _ _ _ _)
    · skip
      refine zL_bd (d_68_15 _ _ _) (m_56_ok _ _ _) fun v1 im1 lm1 => ?_
      refine zL_if (d_68_20 _ _ _ _) (fun h => ?_) (fun h => ?_)
      · skip
        refine zL_eq (d_68_35 _ _ _) ?_
        exact ih _ _ _ _ _
      · skip
        refine zL_bd (d_68_23 _ _ _) (m_67_ok _ _ _ _) fun v2 im2 lm2 => ?_
        refine zL_ifm (d_68_29 _ _ _ _) (fun h => ?_) (fun h => ?_)
        · repeat rw [if_pos h]
          refine zL_eq (d_68_35 _ _ _) ?_
          exact ih _ _ _ _ _
        · repeat rw [if_neg h]
          refine zL_eq (d_68_32 _ _ _) ?_
          exact ih _ _ _ _ _
def m_68 (l1 : Int32) (im : zI) (lm : zJ) : zR :=
    F_68_4  2000 l1 0 0 im lm
theorem m_68_ok {B : zeB} (l1 : Int32) (im : zI) (lm : zJ) : zL B 1 (m_68 l1 im lm) (zeRun 68 0 [some (.ref 16), some (.int l1), none, none] [] (zk B im lm)) := by
  unfold m_68
  refine zL_eq (d_68_0 _ _ _) ?_
  exact F_68_4_ok  _ _ _ _ _ _
/-! X7_playerInQueue -/
theorem d_69_0 {B : zeB} {im : Nat → Nat → Int32} {lm : Nat → Nat → Int64} (l1 : Int32) (o2 : Option Value)  : zeRun 69 0 [some (.ref 16), some (.int l1), o2] [] (zk B im lm) = zeRun 69 2 [some (.ref 16), some (.int l1), some (.int 0)] [] (zk B im lm) := ze_go (ok := true) rfl 2 rfl rfl
theorem d_69_2 {B : zeB} {im : Nat → Nat → Int32} {lm : Nat → Nat → Int64} (l1 : Int32) (l2 : Int32)  : zeRun 69 2 [some (.ref 16), some (.int l1), some (.int l2)] [] (zk B im lm) = if (im 17 1) ≤ l2 then zeRun 69 38 [some (.ref 16), some (.int l1), some (.int l2)] [] (zk B im lm) else zeRun 69 13 [some (.ref 16), some (.int l1), some (.int l2)] [] (zk B im lm) := ze_if (ok := true) rfl 5 rfl rfl
theorem d_69_38 {B : zeB} {im : Nat → Nat → Int32} {lm : Nat → Nat → Int64} (o0 : Option Value) (o1 : Option Value) (o2 : Option Value)  : zeRun 69 38 [o0, o1, o2] [] (zk B im lm) = some (some (.int (-10000005)), (zk B im lm)) := ze_ret (ok := true) rfl 2 rfl rfl
theorem d_69_13 {B : zeB} {im : Nat → Nat → Int32} {lm : Nat → Nat → Int64} (l1 : Int32) (l2 : Int32)  : zeRun 69 13 [some (.ref 16), some (.int l1), some (.int l2)] [] (zk B im lm) = zeBh 69 18 [some (.ref 16), some (.int l1), some (.int l2)] [] (zeRun 56 0 [some (.ref 16), some (.int l2)] [] (zk B im lm)) := ze_call (ok := true) rfl 3 rfl rfl rfl
theorem d_69_18 {B : zeB} {im : Nat → Nat → Int32} {lm : Nat → Nat → Int64} (l1 : Int32) (l2 : Int32) (s0 : Int32)  : zeRun 69 18 [some (.ref 16), some (.int l1), some (.int l2)] [.int s0] (zk B im lm) = if s0 = 0 then zeRun 69 32 [some (.ref 16), some (.int l1), some (.int l2)] [] (zk B im lm) else zeRun 69 21 [some (.ref 16), some (.int l1), some (.int l2)] [] (zk B im lm) := ze_if (ok := true) rfl 1 rfl rfl
theorem d_69_32 {B : zeB} {im : Nat → Nat → Int32} {lm : Nat → Nat → Int64} (l1 : Int32) (l2 : Int32)  : zeRun 69 32 [some (.ref 16), some (.int l1), some (.int l2)] [] (zk B im lm) = zeRun 69 2 [some (.ref 16), some (.int l1), some (.int (l2 + 1))] [] (zk B im lm) := ze_go (ok := true) rfl 2 rfl rfl
theorem d_69_21 {B : zeB} {im : Nat → Nat → Int32} {lm : Nat → Nat → Int64} (l1 : Int32) (l2 : Int32)  : zeRun 69 21 [some (.ref 16), some (.int l1), some (.int l2)] [] (zk B im lm) = zeBh 69 26 [some (.ref 16), some (.int l1), some (.int l2)] [] (zeRun 68 0 [some (.ref 16), some (.int l2), none, none] [] (zk B im lm)) := ze_call (ok := true) rfl 3 rfl rfl rfl
theorem d_69_26 {B : zeB} {im : Nat → Nat → Int32} {lm : Nat → Nat → Int64} (l1 : Int32) (l2 : Int32) (s0 : Int32)  : zeRun 69 26 [some (.ref 16), some (.int l1), some (.int l2)] [.int s0] (zk B im lm) = if s0 = l1 then zeRun 69 30 [some (.ref 16), some (.int l1), some (.int l2)] [] (zk B im lm) else zeRun 69 32 [some (.ref 16), some (.int l1), some (.int l2)] [] (zk B im lm) := ze_if (ok := true) rfl 2 rfl rfl
theorem d_69_30 {B : zeB} {im : Nat → Nat → Int32} {lm : Nat → Nat → Int64} (o0 : Option Value) (o1 : Option Value) (l2 : Int32)  : zeRun 69 30 [o0, o1, some (.int l2)] [] (zk B im lm) = some (some (.int l2), (zk B im lm)) := ze_ret (ok := true) rfl 2 rfl rfl
def F_69_2  : Nat → Int32 → Int32 → zI → zJ → zR
  | 0, _, _, _, _ => none
  | n + 1, l1, l2, im, lm =>
    if (im 17 1) ≤ l2 then
      some ((-10000005), im, lm)
    else
      zBd (m_56 l2 im lm) fun v1 im1 lm1 =>
      if v1 = 0 then
        F_69_2  n l1 (l2 + 1) im1 lm1
      else
        zBd (m_68 l2 im1 lm1) fun v2 im2 lm2 =>
        if v2 = l1 then
          some (l2, im2, lm2)
        else
          F_69_2  n l1 (l2 + 1) im2 lm2
theorem F_69_2_ok {B : zeB} : ∀ (n : Nat) (l1 : Int32) (l2 : Int32)  (im : zI) (lm : zJ), zL B 1 (F_69_2  n l1 l2 im lm) (zeRun 69 2 [some (.ref 16), some (.int l1), some (.int l2)] [] (zk B im lm)) := by
  intro n
  induction n with
  | zero => intros; exact zL_none
  | succ n ih =>
    intro l1 l2 im lm
    unfold F_69_2
    refine zL_if (d_69_2 _ _) (fun h => ?_) (fun h => ?_)
    · skip
      exact zL_ret (d_69_38 _ _ _)
    · skip
      refine zL_bd (d_69_13 _ _) (m_56_ok _ _ _) fun v1 im1 lm1 => ?_
      refine zL_if (d_69_18 _ _ _) (fun h => ?_) (fun h => ?_)
      · skip
        refine zL_eq (d_69_32 _ _) ?_
        exact ih _ _ _ _
      · skip
        refine zL_bd (d_69_21 _ _) (m_68_ok _ _ _) fun v2 im2 lm2 => ?_
        refine zL_if (d_69_26 _ _ _) (fun h => ?_) (fun h => ?_)
        · skip
          exact zL_ret (d_69_30 _ _ _)
        · skip
          refine zL_eq (d_69_32 _ _) ?_
          exact ih _ _ _ _
def m_69 (l1 : Int32) (im : zI) (lm : zJ) : zR :=
    F_69_2  2000 l1 0 im lm
theorem m_69_ok {B : zeB} (l1 : Int32) (im : zI) (lm : zJ) : zL B 1 (m_69 l1 im lm) (zeRun 69 0 [some (.ref 16), some (.int l1), none] [] (zk B im lm)) := by
  unfold m_69
  refine zL_eq (d_69_0 _ _) ?_
  exact F_69_2_ok  _ _ _ _ _
/-! X7_queued -/
theorem d_166_0 {B : zeB} {im : Nat → Nat → Int32} {lm : Nat → Nat → Int64} (l1 : Int32)  : zeRun 166 0 [some (.ref 16), some (.int l1)] [] (zk B im lm) = if 0 ≤ l1 then zeRun 166 9 [some (.ref 16), some (.int l1)] [] (zk B im lm) else zeRun 166 4 [some (.ref 16), some (.int l1)] [] (zk B im lm) := ze_if (ok := true) rfl 2 rfl rfl
theorem d_166_9 {B : zeB} {im : Nat → Nat → Int32} {lm : Nat → Nat → Int64} (l1 : Int32)  : zeRun 166 9 [some (.ref 16), some (.int l1)] [] (zk B im lm) = zeBh 166 14 [some (.ref 16), some (.int l1)] [] (zeRun 69 0 [some (.ref 16), some (.int l1), none] [] (zk B im lm)) := ze_call (ok := true) rfl 3 rfl rfl rfl
theorem d_166_14 {B : zeB} {im : Nat → Nat → Int32} {lm : Nat → Nat → Int64} (o0 : Option Value) (o1 : Option Value) (s0 : Int32)  : zeRun 166 14 [o0, o1] [.int s0] (zk B im lm) = some (some (.int s0), (zk B im lm)) := ze_ret (ok := true) rfl 1 rfl rfl
theorem d_166_4 {B : zeB} {im : Nat → Nat → Int32} {lm : Nat → Nat → Int64} (o0 : Option Value) (o1 : Option Value)  : zeRun 166 4 [o0, o1] [] (zk B im lm) = some (some (.int (-10000002)), (zk B im lm)) := ze_ret (ok := true) rfl 3 rfl rfl
def m_166 (l1 : Int32) (im : zI) (lm : zJ) : zR :=
    if 0 ≤ l1 then
      zBd (m_69 l1 im lm) fun v1 im1 lm1 =>
      some (v1, im1, lm1)
    else
      some ((-10000002), im, lm)
theorem m_166_ok {B : zeB} (l1 : Int32) (im : zI) (lm : zJ) : zL B 1 (m_166 l1 im lm) (zeRun 166 0 [some (.ref 16), some (.int l1)] [] (zk B im lm)) := by
  unfold m_166
  refine zL_if (d_166_0 _) (fun h => ?_) (fun h => ?_)
  · skip
    refine zL_bd (d_166_9 _) (m_69_ok _ _ _) fun v1 im1 lm1 => ?_
    exact zL_ret (d_166_14 _ _ _)
  · skip
    exact zL_ret (d_166_4 _ _)
/-! X3_isTold -/
theorem d_52_0 {B : zeB} {im : Nat → Nat → Int32} {lm : Nat → Nat → Int64} (l1 : Int32) (l2 : Int32) (o3 : Option Value) (o4 : Option Value)  : zeRun 52 0 [some (.ref 19), some (.int l1), some (.int l2), o3, o4] [] (zk B im lm) = if 64 ≤ l2 then zeRun 52 15 [some (.ref 19), some (.int l1), some (.int l2), o3, o4] [] (zk B im lm) else zeRun 52 6 [some (.ref 19), some (.int l1), some (.int l2), o3, o4] [] (zk B im lm) := ze_if (ok := true) rfl 3 rfl rfl
theorem d_52_15 {B : zeB} {im : Nat → Nat → Int32} {lm : Nat → Nat → Int64} (l1 : Int32) (l2 : Int32) (o3 : Option Value) (o4 : Option Value) (c0 : zeInb l1 6 = true) : zeRun 52 15 [some (.ref 19), some (.int l1), some (.int l2), o3, o4] [] (zk B im lm) = zeRun 52 21 [some (.ref 19), some (.int l1), some (.int l2), o3, o4] [.long (lm 22 (Int32.toNatClampNeg l1))] (zk B im lm) := ze_go (ok := (zeInb l1 6 && true)) rfl 4 rfl (zeA2 c0 rfl)
theorem d_52_6 {B : zeB} {im : Nat → Nat → Int32} {lm : Nat → Nat → Int64} (l1 : Int32) (l2 : Int32) (o3 : Option Value) (o4 : Option Value) (c0 : zeInb l1 6 = true) : zeRun 52 6 [some (.ref 19), some (.int l1), some (.int l2), o3, o4] [] (zk B im lm) = zeRun 52 21 [some (.ref 19), some (.int l1), some (.int l2), o3, o4] [.long (lm 21 (Int32.toNatClampNeg l1))] (zk B im lm) := ze_go (ok := (zeInb l1 6 && true)) rfl 5 rfl (zeA2 c0 rfl)
theorem d_52_21 {B : zeB} {im : Nat → Nat → Int32} {lm : Nat → Nat → Int64} (o0 : Option Value) (o1 : Option Value) (l2 : Int32) (o3 : Option Value) (o4 : Option Value) (s0 : Int64)  : zeRun 52 21 [o0, o1, some (.int l2), o3, o4] [.long s0] (zk B im lm) = if (lg_cmp ((zflshr s0 (zfirem l2 64)) &&& 1) 1) = 0 then zeRun 52 35 [o0, o1, some (.int l2), some (.long s0), none] [] (zk B im lm) else zeRun 52 39 [o0, o1, some (.int l2), some (.long s0), none] [] (zk B im lm) := ze_if (ok := true) rfl 11 rfl rfl
theorem d_52_35 {B : zeB} {im : Nat → Nat → Int32} {lm : Nat → Nat → Int64} (o0 : Option Value) (o1 : Option Value) (o2 : Option Value) (o3 : Option Value) (o4 : Option Value)  : zeRun 52 35 [o0, o1, o2, o3, o4] [] (zk B im lm) = some (some (.int 1), (zk B im lm)) := ze_ret (ok := true) rfl 3 rfl rfl
theorem d_52_39 {B : zeB} {im : Nat → Nat → Int32} {lm : Nat → Nat → Int64} (o0 : Option Value) (o1 : Option Value) (o2 : Option Value) (o3 : Option Value) (o4 : Option Value)  : zeRun 52 39 [o0, o1, o2, o3, o4] [] (zk B im lm) = some (some (.int 0), (zk B im lm)) := ze_ret (ok := true) rfl 2 rfl rfl
def J_52_21  (l2 : Int32) (s0 : Int64) (im : zI) (lm : zJ) : zR :=
    some (if (lg_cmp ((zflshr s0 (zfirem l2 64)) &&& 1) 1) = 0 then 1 else 0, im, lm)
theorem J_52_21_ok {B : zeB} (l2 : Int32) (s0 : Int64) (o0 : Option Value) (o1 : Option Value) (o3 : Option Value) (o4 : Option Value) (im : zI) (lm : zJ) : zL B 1 (J_52_21  l2 s0 im lm) (zeRun 52 21 [o0, o1, some (.int l2), o3, o4] [.long s0] (zk B im lm)) := by
  unfold J_52_21
  refine zL_ifm (d_52_21 _ _ _ _ _ _) (fun h => ?_) (fun h => ?_)
  · repeat rw [if_pos h]
    exact zL_ret (d_52_35 _ _ _ _ _)
  · repeat rw [if_neg h]
    exact zL_ret (d_52_39 _ _ _ _ _)
def m_52 (l1 : Int32) (l2 : Int32) (im : zI) (lm : zJ) : zR :=
    zCk (zeInb l1 6) <|
    J_52_21   l2 (if 64 ≤ l2 then (lm 22 (Int32.toNatClampNeg l1)) else (lm 21 (Int32.toNatClampNeg l1))) im lm
theorem m_52_ok {B : zeB} (l1 : Int32) (l2 : Int32) (im : zI) (lm : zJ) : zL B 1 (m_52 l1 l2 im lm) (zeRun 52 0 [some (.ref 19), some (.int l1), some (.int l2), none, none] [] (zk B im lm)) := by
  unfold m_52
  refine zL_ifm (d_52_0 _ _ _ _) (fun h => ?_) (fun h => ?_)
  · repeat rw [if_pos h]
    refine zL_ck fun c1 => ?_
    refine zL_eq (d_52_15 _ _ _ _ c1) ?_
    exact J_52_21_ok   _ _ _ _ _ _ _ _
  · repeat rw [if_neg h]
    refine zL_ck fun c2 => ?_
    refine zL_eq (d_52_6 _ _ _ _ c2) ?_
    exact J_52_21_ok   _ _ _ _ _ _ _ _
/-! X3_endOfLock -/
theorem d_53_0 {B : zeB} {im : Nat → Nat → Int32} {lm : Nat → Nat → Int64} (l1 : Int32) (o2 : Option Value) (o3 : Option Value)  : zeRun 53 0 [some (.ref 19), some (.int l1), o2, o3] [] (zk B im lm) = zeRun 53 7 [some (.ref 19), some (.int l1), some (.int (im 19 1)), some (.int 0)] [] (zk B im lm) := ze_go (ok := true) rfl 5 rfl rfl
theorem d_53_7 {B : zeB} {im : Nat → Nat → Int32} {lm : Nat → Nat → Int64} (l1 : Int32) (l2 : Int32) (l3 : Int32)  : zeRun 53 7 [some (.ref 19), some (.int l1), some (.int l2), some (.int l3)] [] (zk B im lm) = if (im 19 1) ≤ l3 then zeRun 53 41 [some (.ref 19), some (.int l1), some (.int l2), some (.int l3)] [] (zk B im lm) else zeRun 53 15 [some (.ref 19), some (.int l1), some (.int l2), some (.int l3)] [] (zk B im lm) := ze_if (ok := true) rfl 4 rfl rfl
theorem d_53_41 {B : zeB} {im : Nat → Nat → Int32} {lm : Nat → Nat → Int64} (o0 : Option Value) (o1 : Option Value) (l2 : Int32) (o3 : Option Value)  : zeRun 53 41 [o0, o1, some (.int l2), o3] [] (zk B im lm) = some (some (.int l2), (zk B im lm)) := ze_ret (ok := true) rfl 2 rfl rfl
theorem d_53_15 {B : zeB} {im : Nat → Nat → Int32} {lm : Nat → Nat → Int64} (l1 : Int32) (l2 : Int32) (l3 : Int32)  : zeRun 53 15 [some (.ref 19), some (.int l1), some (.int l2), some (.int l3)] [] (zk B im lm) = zeBh 53 21 [some (.ref 19), some (.int l1), some (.int l2), some (.int l3)] [] (zeRun 52 0 [some (.ref 19), some (.int l1), some (.int l3), none, none] [] (zk B im lm)) := ze_call (ok := true) rfl 4 rfl rfl rfl
theorem d_53_21 {B : zeB} {im : Nat → Nat → Int32} {lm : Nat → Nat → Int64} (l1 : Int32) (l2 : Int32) (l3 : Int32) (s0 : Int32)  : zeRun 53 21 [some (.ref 19), some (.int l1), some (.int l2), some (.int l3)] [.int s0] (zk B im lm) = if s0 = 0 then zeRun 53 35 [some (.ref 19), some (.int l1), some (.int l2), some (.int l3)] [] (zk B im lm) else zeRun 53 24 [some (.ref 19), some (.int l1), some (.int l2), some (.int l3)] [] (zk B im lm) := ze_if (ok := true) rfl 1 rfl rfl
theorem d_53_35 {B : zeB} {im : Nat → Nat → Int32} {lm : Nat → Nat → Int64} (l1 : Int32) (l2 : Int32) (l3 : Int32)  : zeRun 53 35 [some (.ref 19), some (.int l1), some (.int l2), some (.int l3)] [] (zk B im lm) = zeRun 53 7 [some (.ref 19), some (.int l1), some (.int l2), some (.int (l3 + 1))] [] (zk B im lm) := ze_go (ok := true) rfl 2 rfl rfl
theorem d_53_24 {B : zeB} {im : Nat → Nat → Int32} {lm : Nat → Nat → Int64} (l1 : Int32) (l2 : Int32) (l3 : Int32)  : zeRun 53 24 [some (.ref 19), some (.int l1), some (.int l2), some (.int l3)] [] (zk B im lm) = zeRun 53 7 [some (.ref 19), some (.int l1), some (.int (if l2 < (l3 + (im 19 2)) then (l3 + (im 19 2)) else l2)), some (.int (l3 + 1))] [] (zk B im lm) := ze_go (ok := true) rfl 9 rfl rfl
def F_53_7  : Nat → Int32 → Int32 → Int32 → zI → zJ → zR
  | 0, _, _, _, _, _ => none
  | n + 1, l1, l2, l3, im, lm =>
    if (im 19 1) ≤ l3 then
      some (l2, im, lm)
    else
      zBd (m_52 l1 l3 im lm) fun v1 im1 lm1 =>
      F_53_7  n l1 (if v1 = 0 then l2 else (if l2 < (l3 + (im1 19 2)) then (l3 + (im1 19 2)) else l2)) (l3 + 1) im1 lm1
theorem F_53_7_ok {B : zeB} : ∀ (n : Nat) (l1 : Int32) (l2 : Int32) (l3 : Int32)  (im : zI) (lm : zJ), zL B 1 (F_53_7  n l1 l2 l3 im lm) (zeRun 53 7 [some (.ref 19), some (.int l1), some (.int l2), some (.int l3)] [] (zk B im lm)) := by
  intro n
  induction n with
  | zero => intros; exact zL_none
  | succ n ih =>
    intro l1 l2 l3 im lm
    unfold F_53_7
    refine zL_if (d_53_7 _ _ _) (fun h => ?_) (fun h => ?_)
    · skip
      exact zL_ret (d_53_41 _ _ _ _)
    · skip
      refine zL_bd (d_53_15 _ _ _) (m_52_ok _ _ _ _) fun v1 im1 lm1 => ?_
      refine zL_ifm (d_53_21 _ _ _ _) (fun h => ?_) (fun h => ?_)
      · repeat rw [if_pos h]
        refine zL_eq (d_53_35 _ _ _) ?_
        exact ih _ _ _ _ _
      · repeat rw [if_neg h]
        refine zL_eq (d_53_24 _ _ _) ?_
        exact ih _ _ _ _ _
def m_53 (l1 : Int32) (im : zI) (lm : zJ) : zR :=
    F_53_7  2000 l1 (im 19 1) 0 im lm
theorem m_53_ok {B : zeB} (l1 : Int32) (im : zI) (lm : zJ) : zL B 1 (m_53 l1 im lm) (zeRun 53 0 [some (.ref 19), some (.int l1), none, none] [] (zk B im lm)) := by
  unfold m_53
  refine zL_eq (d_53_0 _ _ _) ?_
  exact F_53_7_ok  _ _ _ _ _ _
/-! X3_leastCountingTick -/
theorem d_54_0 {B : zeB} {im : Nat → Nat → Int32} {lm : Nat → Nat → Int64} (l1 : Int32) (o2 : Option Value)  : zeRun 54 0 [some (.ref 19), some (.int l1), o2] [] (zk B im lm) = zeBh 54 5 [some (.ref 19), some (.int l1), o2] [] (zeRun 53 0 [some (.ref 19), some (.int l1), none, none] [] (zk B im lm)) := ze_call (ok := true) rfl 3 rfl rfl rfl
theorem d_54_5 {B : zeB} {im : Nat → Nat → Int32} {lm : Nat → Nat → Int64} (l1 : Int32) (o2 : Option Value) (s0 : Int32)  : zeRun 54 5 [some (.ref 19), some (.int l1), o2] [.int s0] (zk B im lm) = zeRun 54 6 [some (.ref 19), some (.int l1), some (.int s0)] [] (zk B im lm) := ze_go (ok := true) rfl 1 rfl rfl
theorem d_54_6 {B : zeB} {im : Nat → Nat → Int32} {lm : Nat → Nat → Int64} (l1 : Int32) (l2 : Int32)  : zeRun 54 6 [some (.ref 19), some (.int l1), some (.int l2)] [] (zk B im lm) = if 100 ≤ l2 then zeRun 54 29 [some (.ref 19), some (.int l1), some (.int l2)] [] (zk B im lm) else zeRun 54 12 [some (.ref 19), some (.int l1), some (.int l2)] [] (zk B im lm) := ze_if (ok := true) rfl 3 rfl rfl
theorem d_54_29 {B : zeB} {im : Nat → Nat → Int32} {lm : Nat → Nat → Int64} (o0 : Option Value) (o1 : Option Value) (o2 : Option Value)  : zeRun 54 29 [o0, o1, o2] [] (zk B im lm) = some (some (.int (-10000005)), (zk B im lm)) := ze_ret (ok := true) rfl 2 rfl rfl
theorem d_54_12 {B : zeB} {im : Nat → Nat → Int32} {lm : Nat → Nat → Int64} (l1 : Int32) (l2 : Int32)  : zeRun 54 12 [some (.ref 19), some (.int l1), some (.int l2)] [] (zk B im lm) = zeBh 54 18 [some (.ref 19), some (.int l1), some (.int l2)] [] (zeRun 52 0 [some (.ref 19), some (.int l1), some (.int l2), none, none] [] (zk B im lm)) := ze_call (ok := true) rfl 4 rfl rfl rfl
theorem d_54_18 {B : zeB} {im : Nat → Nat → Int32} {lm : Nat → Nat → Int64} (l1 : Int32) (l2 : Int32) (s0 : Int32)  : zeRun 54 18 [some (.ref 19), some (.int l1), some (.int l2)] [.int s0] (zk B im lm) = if s0 = 0 then zeRun 54 23 [some (.ref 19), some (.int l1), some (.int l2)] [] (zk B im lm) else zeRun 54 21 [some (.ref 19), some (.int l1), some (.int l2)] [] (zk B im lm) := ze_if (ok := true) rfl 1 rfl rfl
theorem d_54_23 {B : zeB} {im : Nat → Nat → Int32} {lm : Nat → Nat → Int64} (l1 : Int32) (l2 : Int32)  : zeRun 54 23 [some (.ref 19), some (.int l1), some (.int l2)] [] (zk B im lm) = zeRun 54 6 [some (.ref 19), some (.int l1), some (.int (l2 + 1))] [] (zk B im lm) := ze_go (ok := true) rfl 2 rfl rfl
theorem d_54_21 {B : zeB} {im : Nat → Nat → Int32} {lm : Nat → Nat → Int64} (o0 : Option Value) (o1 : Option Value) (l2 : Int32)  : zeRun 54 21 [o0, o1, some (.int l2)] [] (zk B im lm) = some (some (.int l2), (zk B im lm)) := ze_ret (ok := true) rfl 2 rfl rfl
def F_54_6  : Nat → Int32 → Int32 → zI → zJ → zR
  | 0, _, _, _, _ => none
  | n + 1, l1, l2, im, lm =>
    if 100 ≤ l2 then
      some ((-10000005), im, lm)
    else
      zBd (m_52 l1 l2 im lm) fun v1 im1 lm1 =>
      if v1 = 0 then
        F_54_6  n l1 (l2 + 1) im1 lm1
      else
        some (l2, im1, lm1)
theorem F_54_6_ok {B : zeB} : ∀ (n : Nat) (l1 : Int32) (l2 : Int32)  (im : zI) (lm : zJ), zL B 1 (F_54_6  n l1 l2 im lm) (zeRun 54 6 [some (.ref 19), some (.int l1), some (.int l2)] [] (zk B im lm)) := by
  intro n
  induction n with
  | zero => intros; exact zL_none
  | succ n ih =>
    intro l1 l2 im lm
    unfold F_54_6
    refine zL_if (d_54_6 _ _) (fun h => ?_) (fun h => ?_)
    · skip
      exact zL_ret (d_54_29 _ _ _)
    · skip
      refine zL_bd (d_54_12 _ _) (m_52_ok _ _ _ _) fun v1 im1 lm1 => ?_
      refine zL_if (d_54_18 _ _ _) (fun h => ?_) (fun h => ?_)
      · skip
        refine zL_eq (d_54_23 _ _) ?_
        exact ih _ _ _ _
      · skip
        exact zL_ret (d_54_21 _ _ _)
def m_54 (l1 : Int32) (im : zI) (lm : zJ) : zR :=
    zBd (m_53 l1 im lm) fun v1 im1 lm1 =>
    F_54_6  2000 l1 v1 im1 lm1
theorem m_54_ok {B : zeB} (l1 : Int32) (im : zI) (lm : zJ) : zL B 1 (m_54 l1 im lm) (zeRun 54 0 [some (.ref 19), some (.int l1), none] [] (zk B im lm)) := by
  unfold m_54
  refine zL_bd (d_54_0 _ _) (m_53_ok _ _ _) fun v1 im1 lm1 => ?_
  refine zL_eq (d_54_5 _ _ _) ?_
  exact F_54_6_ok  _ _ _ _ _
