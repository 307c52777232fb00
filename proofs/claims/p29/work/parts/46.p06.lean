/-! pure: X3_tell, X7_queueLength, X7_doBuzz, X7_buzz, X4_isAhead, X7_placeOf, X7_player, X7_doClose, X7_close, X7_playerToAnswer, X2_isFull, X2_append, X7_answerOpenClue -/
/-! X3_tell -/
theorem d_55_0 {B : zeB} {im : Nat → Nat → Int32} {lm : Nat → Nat → Int64} (l1 : Int32) (l2 : Int32)  : zeRun 55 0 [some (.ref 19), some (.int l1), some (.int l2)] [] (zk B im lm) = if 64 ≤ l2 then zeRun 55 21 [some (.ref 19), some (.int l1), some (.int l2)] [] (zk B im lm) else zeRun 55 6 [some (.ref 19), some (.int l1), some (.int l2)] [] (zk B im lm) := ze_if (ok := true) rfl 3 rfl rfl
theorem d_55_21 {B : zeB} {im : Nat → Nat → Int32} {lm : Nat → Nat → Int64} (l1 : Int32) (l2 : Int32) (c0 : zeInb l1 6 = true) (c1 : zeInb l1 6 = true) : zeRun 55 21 [some (.ref 19), some (.int l1), some (.int l2)] [] (zk B im lm) = zeRun 55 36 [some (.ref 19), some (.int l1), some (.int l2)] [] (zk B im (zeU2 lm 22 (Int32.toNatClampNeg l1) ((lm 22 (Int32.toNatClampNeg l1)) ||| (zflshl 1 (l2 - 64))))) := ze_go (ok := (zeInb l1 6 && (zeInb l1 6 && true))) rfl 12 rfl (zeA2 c1 (zeA2 c0 rfl))
theorem d_55_6 {B : zeB} {im : Nat → Nat → Int32} {lm : Nat → Nat → Int64} (l1 : Int32) (l2 : Int32) (c0 : zeInb l1 6 = true) (c1 : zeInb l1 6 = true) : zeRun 55 6 [some (.ref 19), some (.int l1), some (.int l2)] [] (zk B im lm) = zeRun 55 36 [some (.ref 19), some (.int l1), some (.int l2)] [] (zk B im (zeU2 lm 21 (Int32.toNatClampNeg l1) ((lm 21 (Int32.toNatClampNeg l1)) ||| (zflshl 1 l2)))) := ze_go (ok := (zeInb l1 6 && (zeInb l1 6 && true))) rfl 11 rfl (zeA2 c1 (zeA2 c0 rfl))
theorem d_55_36 {B : zeB} {im : Nat → Nat → Int32} {lm : Nat → Nat → Int64} (l1 : Int32) (o2 : Option Value)  : zeRun 55 36 [some (.ref 19), some (.int l1), o2] [] (zk B im lm) = zeBh 55 46 [some (.ref 19), some (.int l1), o2] [.int l1, .ref 20] (zeRun 54 0 [some (.ref 19), some (.int l1), none] [] (zk B im lm)) := ze_call (ok := true) rfl 6 rfl rfl rfl
theorem d_55_46 {B : zeB} {im : Nat → Nat → Int32} {lm : Nat → Nat → Int64} (o0 : Option Value) (o1 : Option Value) (o2 : Option Value) (s1 : Int32) (s2 : Int32) (c0 : zeInb s1 6 = true) : zeRun 55 46 [o0, o1, o2] [.int s2, .int s1, .ref 20] (zk B im lm) = some (none, (zk B (zeU2 im 20 (Int32.toNatClampNeg s1) s2) lm)) := ze_ret (ok := (zeInb s1 6 && true)) rfl 2 rfl (zeA2 c0 rfl)
def J_55_36  (l1 : Int32) (im : zI) (lm : zJ) : zR :=
    zBd (m_54 l1 im lm) fun v1 im1 lm1 =>
    zCk (zeInb l1 6) <|
    some (0, (zeU2 im1 20 (Int32.toNatClampNeg l1) v1), lm1)
theorem J_55_36_ok {B : zeB} (l1 : Int32) (o2 : Option Value) (im : zI) (lm : zJ) : zL B 0 (J_55_36  l1 im lm) (zeRun 55 36 [some (.ref 19), some (.int l1), o2] [] (zk B im lm)) := by
  unfold J_55_36
  refine zL_bd (d_55_36 _ _) (m_54_ok _ _ _) fun v1 im1 lm1 => ?_
  refine zL_ck fun c1 => ?_
  exact zL_retv (d_55_46 _ _ _ _ _ c1)
def m_55 (l1 : Int32) (l2 : Int32) (im : zI) (lm : zJ) : zR :=
    zCk (zeInb l1 6) <|
    J_55_36   l1 im (if 64 ≤ l2 then (zeU2 lm 22 (Int32.toNatClampNeg l1) ((lm 22 (Int32.toNatClampNeg l1)) ||| (zflshl 1 (l2 - 64)))) else (zeU2 lm 21 (Int32.toNatClampNeg l1) ((lm 21 (Int32.toNatClampNeg l1)) ||| (zflshl 1 l2))))
theorem m_55_ok {B : zeB} (l1 : Int32) (l2 : Int32) (im : zI) (lm : zJ) : zL B 0 (m_55 l1 l2 im lm) (zeRun 55 0 [some (.ref 19), some (.int l1), some (.int l2)] [] (zk B im lm)) := by
  unfold m_55
  refine zL_ifm (d_55_0 _ _) (fun h => ?_) (fun h => ?_)
  · repeat rw [if_pos h]
    refine zL_ck fun c1 => ?_
    refine zL_eq (d_55_21 _ _ c1 c1) ?_
    exact J_55_36_ok   _ _ _ _
  · repeat rw [if_neg h]
    refine zL_ck fun c2 => ?_
    refine zL_eq (d_55_6 _ _ c2 c2) ?_
    exact J_55_36_ok   _ _ _ _
/-! X7_queueLength -/
theorem d_57_0 {B : zeB} {im : Nat → Nat → Int32} {lm : Nat → Nat → Int64} (o1 : Option Value) (o2 : Option Value)  : zeRun 57 0 [some (.ref 16), o1, o2] [] (zk B im lm) = zeRun 57 4 [some (.ref 16), some (.int 0), some (.int 0)] [] (zk B im lm) := ze_go (ok := true) rfl 4 rfl rfl
theorem d_57_4 {B : zeB} {im : Nat → Nat → Int32} {lm : Nat → Nat → Int64} (l1 : Int32) (l2 : Int32)  : zeRun 57 4 [some (.ref 16), some (.int l1), some (.int l2)] [] (zk B im lm) = if (im 17 1) ≤ l2 then zeRun 57 32 [some (.ref 16), some (.int l1), some (.int l2)] [] (zk B im lm) else zeRun 57 15 [some (.ref 16), some (.int l1), some (.int l2)] [] (zk B im lm) := ze_if (ok := true) rfl 5 rfl rfl
theorem d_57_32 {B : zeB} {im : Nat → Nat → Int32} {lm : Nat → Nat → Int64} (o0 : Option Value) (l1 : Int32) (o2 : Option Value)  : zeRun 57 32 [o0, some (.int l1), o2] [] (zk B im lm) = some (some (.int l1), (zk B im lm)) := ze_ret (ok := true) rfl 2 rfl rfl
theorem d_57_15 {B : zeB} {im : Nat → Nat → Int32} {lm : Nat → Nat → Int64} (l1 : Int32) (l2 : Int32)  : zeRun 57 15 [some (.ref 16), some (.int l1), some (.int l2)] [] (zk B im lm) = zeBh 57 20 [some (.ref 16), some (.int l1), some (.int l2)] [] (zeRun 56 0 [some (.ref 16), some (.int l2)] [] (zk B im lm)) := ze_call (ok := true) rfl 3 rfl rfl rfl
theorem d_57_20 {B : zeB} {im : Nat → Nat → Int32} {lm : Nat → Nat → Int64} (l1 : Int32) (l2 : Int32) (s0 : Int32)  : zeRun 57 20 [some (.ref 16), some (.int l1), some (.int l2)] [.int s0] (zk B im lm) = if s0 = 0 then zeRun 57 26 [some (.ref 16), some (.int l1), some (.int l2)] [] (zk B im lm) else zeRun 57 23 [some (.ref 16), some (.int l1), some (.int l2)] [] (zk B im lm) := ze_if (ok := true) rfl 1 rfl rfl
theorem d_57_26 {B : zeB} {im : Nat → Nat → Int32} {lm : Nat → Nat → Int64} (l1 : Int32) (l2 : Int32)  : zeRun 57 26 [some (.ref 16), some (.int l1), some (.int l2)] [] (zk B im lm) = zeRun 57 4 [some (.ref 16), some (.int l1), some (.int (l2 + 1))] [] (zk B im lm) := ze_go (ok := true) rfl 2 rfl rfl
theorem d_57_23 {B : zeB} {im : Nat → Nat → Int32} {lm : Nat → Nat → Int64} (l1 : Int32) (l2 : Int32)  : zeRun 57 23 [some (.ref 16), some (.int l1), some (.int l2)] [] (zk B im lm) = zeRun 57 4 [some (.ref 16), some (.int (l1 + 1)), some (.int (l2 + 1))] [] (zk B im lm) := ze_go (ok := true) rfl 3 rfl rfl
def F_57_4  : Nat → Int32 → Int32 → zI → zJ → zR
  | 0, _, _, _, _ => none
  | n + 1, l1, l2, im, lm =>
    if (im 17 1) ≤ l2 then
      some (l1, im, lm)
    else
      zBd (m_56 l2 im lm) fun v1 im1 lm1 =>
      F_57_4  n (if v1 = 0 then l1 else (l1 + 1)) (l2 + 1) im1 lm1
theorem F_57_4_ok {B : zeB} : ∀ (n : Nat) (l1 : Int32) (l2 : Int32)  (im : zI) (lm : zJ), zL B 1 (F_57_4  n l1 l2 im lm) (zeRun 57 4 [some (.ref 16), some (.int l1), some (.int l2)] [] (zk B im lm)) := by
  intro n
  induction n with
  | zero => intros; exact zL_none
  | succ n ih =>
    intro l1 l2 im lm
    unfold F_57_4
    refine zL_if (d_57_4 _ _) (fun h => ?_) (fun h => ?_)
    · skip
      exact zL_ret (d_57_32 _ _ _)
    · skip
      refine zL_bd (d_57_15 _ _) (m_56_ok _ _ _) fun v1 im1 lm1 => ?_
      refine zL_ifm (d_57_20 _ _ _) (fun h => ?_) (fun h => ?_)
      · repeat rw [if_pos h]
        refine zL_eq (d_57_26 _ _) ?_
        exact ih _ _ _ _
      · repeat rw [if_neg h]
        refine zL_eq (d_57_23 _ _) ?_
        exact ih _ _ _ _
def m_57  (im : zI) (lm : zJ) : zR :=
    F_57_4  2000 0 0 im lm
theorem m_57_ok {B : zeB}  (im : zI) (lm : zJ) : zL B 1 (m_57  im lm) (zeRun 57 0 [some (.ref 16), none, none] [] (zk B im lm)) := by
  unfold m_57
  refine zL_eq (d_57_0 _ _) ?_
  exact F_57_4_ok  _ _ _ _ _
/-! X7_doBuzz -/
theorem d_58_0 {B : zeB} {im : Nat → Nat → Int32} {lm : Nat → Nat → Int64} (l1 : Int32) (l2 : Int32)  : zeRun 58 0 [some (.ref 16), some (.int l1), some (.int l2)] [] (zk B im lm) = zeBh 58 5 [some (.ref 16), some (.int l1), some (.int l2)] [] (zeRun 38 0 [some (.ref 16), some (.int l1)] [] (zk B im lm)) := ze_call (ok := true) rfl 3 rfl rfl rfl
theorem d_58_5 {B : zeB} {im : Nat → Nat → Int32} {lm : Nat → Nat → Int64} (l1 : Int32) (l2 : Int32) (s0 : Int32)  : zeRun 58 5 [some (.ref 16), some (.int l1), some (.int l2)] [.int s0] (zk B im lm) = if s0 = 0 then zeRun 58 8 [some (.ref 16), some (.int l1), some (.int l2)] [] (zk B im lm) else zeRun 58 11 [some (.ref 16), some (.int l1), some (.int l2)] [] (zk B im lm) := ze_if (ok := true) rfl 1 rfl rfl
theorem d_58_8 {B : zeB} {im : Nat → Nat → Int32} {lm : Nat → Nat → Int64} (o0 : Option Value) (o1 : Option Value) (o2 : Option Value)  : zeRun 58 8 [o0, o1, o2] [] (zk B im lm) = some (some (.int (-10000001)), (zk B im lm)) := ze_ret (ok := true) rfl 2 rfl rfl
theorem d_58_11 {B : zeB} {im : Nat → Nat → Int32} {lm : Nat → Nat → Int64} (l1 : Int32) (l2 : Int32)  : zeRun 58 11 [some (.ref 16), some (.int l1), some (.int l2)] [] (zk B im lm) = if l2 < 0 then zeRun 58 21 [some (.ref 16), some (.int l1), some (.int l2)] [] (zk B im lm) else zeRun 58 15 [some (.ref 16), some (.int l1), some (.int l2)] [] (zk B im lm) := ze_if (ok := true) rfl 2 rfl rfl
theorem d_58_21 {B : zeB} {im : Nat → Nat → Int32} {lm : Nat → Nat → Int64} (o0 : Option Value) (o1 : Option Value) (o2 : Option Value)  : zeRun 58 21 [o0, o1, o2] [] (zk B im lm) = some (some (.int (-10000002)), (zk B im lm)) := ze_ret (ok := true) rfl 2 rfl rfl
theorem d_58_15 {B : zeB} {im : Nat → Nat → Int32} {lm : Nat → Nat → Int64} (l1 : Int32) (l2 : Int32)  : zeRun 58 15 [some (.ref 16), some (.int l1), some (.int l2)] [] (zk B im lm) = if l2 < 100 then zeRun 58 24 [some (.ref 16), some (.int l1), some (.int l2)] [] (zk B im lm) else zeRun 58 21 [some (.ref 16), some (.int l1), some (.int l2)] [] (zk B im lm) := ze_if (ok := true) rfl 3 rfl rfl
theorem d_58_24 {B : zeB} {im : Nat → Nat → Int32} {lm : Nat → Nat → Int64} (l1 : Int32) (l2 : Int32)  : zeRun 58 24 [some (.ref 16), some (.int l1), some (.int l2)] [] (zk B im lm) = if (im 17 0) = 1 then zeRun 58 41 [some (.ref 16), some (.int l1), some (.int l2)] [] (zk B im lm) else zeRun 58 35 [some (.ref 16), some (.int l1), some (.int l2)] [] (zk B im lm) := ze_if (ok := true) rfl 5 rfl rfl
theorem d_58_41 {B : zeB} {im : Nat → Nat → Int32} {lm : Nat → Nat → Int64} (l1 : Int32) (l2 : Int32)  : zeRun 58 41 [some (.ref 16), some (.int l1), some (.int l2)] [] (zk B im lm) = zeBh 58 53 [some (.ref 16), some (.int l1), some (.int l2)] [] (zeRun 52 0 [some (.ref 19), some (.int l1), some (.int l2), none, none] [] (zk B im lm)) := ze_call (ok := true) rfl 6 rfl rfl rfl
theorem d_58_53 {B : zeB} {im : Nat → Nat → Int32} {lm : Nat → Nat → Int64} (l1 : Int32) (l2 : Int32) (s0 : Int32)  : zeRun 58 53 [some (.ref 16), some (.int l1), some (.int l2)] [.int s0] (zk B im lm) = if s0 = 0 then zeRun 58 59 [some (.ref 16), some (.int l1), some (.int l2)] [] (zk B im lm) else zeRun 58 56 [some (.ref 16), some (.int l1), some (.int l2)] [] (zk B im lm) := ze_if (ok := true) rfl 1 rfl rfl
theorem d_58_59 {B : zeB} {im : Nat → Nat → Int32} {lm : Nat → Nat → Int64} (l1 : Int32) (l2 : Int32)  : zeRun 58 59 [some (.ref 16), some (.int l1), some (.int l2)] [] (zk B im lm) = zeBh 58 71 [some (.ref 16), some (.int l1), some (.int l2)] [] (zeRun 55 0 [some (.ref 19), some (.int l1), some (.int l2)] [] (zk B im lm)) := ze_call (ok := true) rfl 6 rfl rfl rfl
theorem d_58_71 {B : zeB} {im : Nat → Nat → Int32} {lm : Nat → Nat → Int64} (o1 : Option Value) (o2 : Option Value)  : zeRun 58 71 [some (.ref 16), o1, o2] [] (zk B im lm) = zeBh 58 75 [some (.ref 16), o1, o2] [] (zeRun 57 0 [some (.ref 16), none, none] [] (zk B im lm)) := ze_call (ok := true) rfl 2 rfl rfl rfl
theorem d_58_75 {B : zeB} {im : Nat → Nat → Int32} {lm : Nat → Nat → Int64} (o0 : Option Value) (o1 : Option Value) (o2 : Option Value) (s0 : Int32)  : zeRun 58 75 [o0, o1, o2] [.int s0] (zk B im lm) = some (some (.int s0), (zk B im lm)) := ze_ret (ok := true) rfl 1 rfl rfl
theorem d_58_56 {B : zeB} {im : Nat → Nat → Int32} {lm : Nat → Nat → Int64} (o0 : Option Value) (o1 : Option Value) (o2 : Option Value)  : zeRun 58 56 [o0, o1, o2] [] (zk B im lm) = some (some (.int (-10000005)), (zk B im lm)) := ze_ret (ok := true) rfl 2 rfl rfl
theorem d_58_35 {B : zeB} {im : Nat → Nat → Int32} {lm : Nat → Nat → Int64} (o1 : Option Value) (o2 : Option Value)  : zeRun 58 35 [some (.ref 16), o1, o2] [] (zk B im lm) = zeBh 58 40 [some (.ref 16), o1, o2] [] (zeRun 17 0 [some (.ref 16), some (.int 1)] [] (zk B im lm)) := ze_call (ok := true) rfl 3 rfl rfl rfl
theorem d_58_40 {B : zeB} {im : Nat → Nat → Int32} {lm : Nat → Nat → Int64} (o0 : Option Value) (o1 : Option Value) (o2 : Option Value) (s0 : Int32)  : zeRun 58 40 [o0, o1, o2] [.int s0] (zk B im lm) = some (some (.int s0), (zk B im lm)) := ze_ret (ok := true) rfl 1 rfl rfl
def m_58 (l1 : Int32) (l2 : Int32) (im : zI) (lm : zJ) : zR :=
    if (if l1 < 0 then 0 else if (im 17 1) ≤ l1 then 0 else 1 : Int32) = 0 then
      some ((-10000001), im, lm)
    else
      if l2 < 0 then
        some ((-10000002), im, lm)
      else
        if l2 < 100 then
          if (im 17 0) = 1 then
            zBd (m_52 l1 l2 im lm) fun v2 im2 lm2 =>
            if v2 = 0 then
              zBd (m_55 l1 l2 im2 lm2) fun _ im3 lm3 =>
              zBd (m_57  im3 lm3) fun v4 im4 lm4 =>
              some (v4, im4, lm4)
            else
              some ((-10000005), im2, lm2)
          else
            zBd (m_17 1 im lm) fun v5 im5 lm5 =>
            some (v5, im5, lm5)
        else
          some ((-10000002), im, lm)
theorem m_58_ok {B : zeB} (l1 : Int32) (l2 : Int32) (im : zI) (lm : zJ) : zL B 1 (m_58 l1 l2 im lm) (zeRun 58 0 [some (.ref 16), some (.int l1), some (.int l2)] [] (zk B im lm)) := by
  unfold m_58
  refine zL_bdp (e := (if l1 < 0 then 0 else if (im 17 1) ≤ l1 then 0 else 1 : Int32)) (d_58_0 _ _) (m_38_ok _ _ _) ?_
  refine zL_if (d_58_5 _ _ _) (fun h => ?_) (fun h => ?_)
  · skip
    exact zL_ret (d_58_8 _ _ _)
  · skip
    refine zL_if (d_58_11 _ _) (fun h => ?_) (fun h => ?_)
    · skip
      exact zL_ret (d_58_21 _ _ _)
    · skip
      refine zL_if (d_58_15 _ _) (fun h => ?_) (fun h => ?_)
      · skip
        refine zL_if (d_58_24 _ _) (fun h => ?_) (fun h => ?_)
        · skip
          refine zL_bd (d_58_41 _ _) (m_52_ok _ _ _ _) fun v2 im2 lm2 => ?_
          refine zL_if (d_58_53 _ _ _) (fun h => ?_) (fun h => ?_)
          · skip
            refine zL_bdv (d_58_59 _ _) (m_55_ok _ _ _ _) fun _ im3 lm3 => ?_
            refine zL_bd (d_58_71 _ _) (m_57_ok _ _) fun v4 im4 lm4 => ?_
            exact zL_ret (d_58_75 _ _ _ _)
          · skip
            exact zL_ret (d_58_56 _ _ _)
        · skip
          refine zL_bd (d_58_35 _ _) (m_17_ok _ _ _) fun v5 im5 lm5 => ?_
          exact zL_ret (d_58_40 _ _ _ _)
      · skip
        exact zL_ret (d_58_21 _ _ _)
/-! X7_buzz -/
theorem d_59_0 {B : zeB} {im : Nat → Nat → Int32} {lm : Nat → Nat → Int64} (l1 : Int32) (l2 : Int32)  : zeRun 59 0 [some (.ref 16), some (.int l1), some (.int l2)] [] (zk B im lm) = zeBh 59 11 [some (.ref 16), some (.int l1), some (.int l2)] [] (zeRun 15 0 [some (.ref 42), some (.ref 17)] [] (zk B im lm)) := ze_call (ok := true) rfl 5 rfl rfl rfl
theorem d_59_11 {B : zeB} {im : Nat → Nat → Int32} {lm : Nat → Nat → Int64} (l1 : Int32) (l2 : Int32)  : zeRun 59 11 [some (.ref 16), some (.int l1), some (.int l2)] [] (zk B im lm) = zeBh 59 18 [some (.ref 16), some (.int l1), some (.int l2)] [.ref 16] (zeRun 58 0 [some (.ref 16), some (.int l1), some (.int l2)] [] (zk B im lm)) := ze_call (ok := true) rfl 5 rfl rfl rfl
theorem d_59_18 {B : zeB} {im : Nat → Nat → Int32} {lm : Nat → Nat → Int64} (o0 : Option Value) (o1 : Option Value) (o2 : Option Value) (s1 : Int32)  : zeRun 59 18 [o0, o1, o2] [.int s1, .ref 16] (zk B im lm) = zeBh 59 21 [o0, o1, o2] [] (zeRun 21 0 [some (.ref 16), some (.int s1)] [] (zk B im lm)) := ze_call (ok := true) rfl 1 rfl rfl rfl
theorem d_59_21 {B : zeB} {im : Nat → Nat → Int32} {lm : Nat → Nat → Int64} (o0 : Option Value) (o1 : Option Value) (o2 : Option Value) (s0 : Int32)  : zeRun 59 21 [o0, o1, o2] [.int s0] (zk B im lm) = some (some (.int s0), (zk B im lm)) := ze_ret (ok := true) rfl 1 rfl rfl
def m_59 (l1 : Int32) (l2 : Int32) (im : zI) (lm : zJ) : zR :=
    zBd (m_15  im lm) fun _ im1 lm1 =>
    zBd (m_58 l1 l2 im1 lm1) fun v2 im2 lm2 =>
    zBd (m_21 v2 im2 lm2) fun v3 im3 lm3 =>
    some (v3, im3, lm3)
theorem m_59_ok {B : zeB} (l1 : Int32) (l2 : Int32) (im : zI) (lm : zJ) : zL B 1 (m_59 l1 l2 im lm) (zeRun 59 0 [some (.ref 16), some (.int l1), some (.int l2)] [] (zk B im lm)) := by
  unfold m_59
  refine zL_bdv (d_59_0 _ _) (m_15_ok _ _) fun _ im1 lm1 => ?_
  refine zL_bd (d_59_11 _ _) (m_58_ok _ _ _ _) fun v2 im2 lm2 => ?_
  refine zL_bd (d_59_18 _ _ _ _) (m_21_ok _ _ _) fun v3 im3 lm3 => ?_
  exact zL_ret (d_59_21 _ _ _ _)
/-! X4_isAhead -/
theorem d_154_0 {B : zeB} {im : Nat → Nat → Int32} {lm : Nat → Nat → Int64} (l1 : Int32) (l2 : Int32) (c0 : zeInb l1 6 = true) (c1 : zeInb l2 6 = true) : zeRun 154 0 [some (.ref 32), some (.int l1), some (.int l2)] [] (zk B im lm) = if (im 33 (Int32.toNatClampNeg l1)) = (im 33 (Int32.toNatClampNeg l2)) then zeRun 154 36 [some (.ref 32), some (.int l1), some (.int l2)] [] (zk B im lm) else zeRun 154 15 [some (.ref 32), some (.int l1), some (.int l2)] [] (zk B im lm) := ze_if (ok := (zeInb l2 6 && (zeInb l1 6 && true))) rfl 9 rfl (zeA2 c1 (zeA2 c0 rfl))
theorem d_154_36 {B : zeB} {im : Nat → Nat → Int32} {lm : Nat → Nat → Int64} (l1 : Int32) (l2 : Int32) (c0 : zeInb l1 6 = true) (c1 : zeInb l2 6 = true) : zeRun 154 36 [some (.ref 32), some (.int l1), some (.int l2)] [] (zk B im lm) = if (im 34 (Int32.toNatClampNeg l1)) = (im 34 (Int32.toNatClampNeg l2)) then zeRun 154 72 [some (.ref 32), some (.int l1), some (.int l2)] [] (zk B im lm) else zeRun 154 51 [some (.ref 32), some (.int l1), some (.int l2)] [] (zk B im lm) := ze_if (ok := (zeInb l2 6 && (zeInb l1 6 && true))) rfl 9 rfl (zeA2 c1 (zeA2 c0 rfl))
theorem d_154_72 {B : zeB} {im : Nat → Nat → Int32} {lm : Nat → Nat → Int64} (l1 : Int32) (l2 : Int32) (c0 : zeInb l1 6 = true) (c1 : zeInb l2 6 = true) : zeRun 154 72 [some (.ref 32), some (.int l1), some (.int l2)] [] (zk B im lm) = if (im 35 (Int32.toNatClampNeg l1)) = (im 35 (Int32.toNatClampNeg l2)) then zeRun 154 108 [some (.ref 32), some (.int l1), some (.int l2)] [] (zk B im lm) else zeRun 154 87 [some (.ref 32), some (.int l1), some (.int l2)] [] (zk B im lm) := ze_if (ok := (zeInb l2 6 && (zeInb l1 6 && true))) rfl 9 rfl (zeA2 c1 (zeA2 c0 rfl))
theorem d_154_108 {B : zeB} {im : Nat → Nat → Int32} {lm : Nat → Nat → Int64} (o0 : Option Value) (l1 : Int32) (l2 : Int32)  : zeRun 154 108 [o0, some (.int l1), some (.int l2)] [] (zk B im lm) = if l2 ≤ l1 then zeRun 154 117 [o0, some (.int l1), some (.int l2)] [] (zk B im lm) else zeRun 154 113 [o0, some (.int l1), some (.int l2)] [] (zk B im lm) := ze_if (ok := true) rfl 3 rfl rfl
theorem d_154_117 {B : zeB} {im : Nat → Nat → Int32} {lm : Nat → Nat → Int64} (o0 : Option Value) (o1 : Option Value) (o2 : Option Value)  : zeRun 154 117 [o0, o1, o2] [] (zk B im lm) = some (some (.int 0), (zk B im lm)) := ze_ret (ok := true) rfl 2 rfl rfl
theorem d_154_113 {B : zeB} {im : Nat → Nat → Int32} {lm : Nat → Nat → Int64} (o0 : Option Value) (o1 : Option Value) (o2 : Option Value)  : zeRun 154 113 [o0, o1, o2] [] (zk B im lm) = some (some (.int 1), (zk B im lm)) := ze_ret (ok := true) rfl 3 rfl rfl
theorem d_154_87 {B : zeB} {im : Nat → Nat → Int32} {lm : Nat → Nat → Int64} (l1 : Int32) (l2 : Int32) (c0 : zeInb l1 6 = true) (c1 : zeInb l2 6 = true) : zeRun 154 87 [some (.ref 32), some (.int l1), some (.int l2)] [] (zk B im lm) = if (im 35 (Int32.toNatClampNeg l2)) ≤ (im 35 (Int32.toNatClampNeg l1)) then zeRun 154 106 [some (.ref 32), some (.int l1), some (.int l2)] [] (zk B im lm) else zeRun 154 102 [some (.ref 32), some (.int l1), some (.int l2)] [] (zk B im lm) := ze_if (ok := (zeInb l2 6 && (zeInb l1 6 && true))) rfl 9 rfl (zeA2 c1 (zeA2 c0 rfl))
theorem d_154_106 {B : zeB} {im : Nat → Nat → Int32} {lm : Nat → Nat → Int64} (o0 : Option Value) (o1 : Option Value) (o2 : Option Value)  : zeRun 154 106 [o0, o1, o2] [] (zk B im lm) = some (some (.int 0), (zk B im lm)) := ze_ret (ok := true) rfl 2 rfl rfl
theorem d_154_102 {B : zeB} {im : Nat → Nat → Int32} {lm : Nat → Nat → Int64} (o0 : Option Value) (o1 : Option Value) (o2 : Option Value)  : zeRun 154 102 [o0, o1, o2] [] (zk B im lm) = some (some (.int 1), (zk B im lm)) := ze_ret (ok := true) rfl 3 rfl rfl
theorem d_154_51 {B : zeB} {im : Nat → Nat → Int32} {lm : Nat → Nat → Int64} (l1 : Int32) (l2 : Int32) (c0 : zeInb l1 6 = true) (c1 : zeInb l2 6 = true) : zeRun 154 51 [some (.ref 32), some (.int l1), some (.int l2)] [] (zk B im lm) = if (im 34 (Int32.toNatClampNeg l1)) ≤ (im 34 (Int32.toNatClampNeg l2)) then zeRun 154 70 [some (.ref 32), some (.int l1), some (.int l2)] [] (zk B im lm) else zeRun 154 66 [some (.ref 32), some (.int l1), some (.int l2)] [] (zk B im lm) := ze_if (ok := (zeInb l2 6 && (zeInb l1 6 && true))) rfl 9 rfl (zeA2 c1 (zeA2 c0 rfl))
theorem d_154_70 {B : zeB} {im : Nat → Nat → Int32} {lm : Nat → Nat → Int64} (o0 : Option Value) (o1 : Option Value) (o2 : Option Value)  : zeRun 154 70 [o0, o1, o2] [] (zk B im lm) = some (some (.int 0), (zk B im lm)) := ze_ret (ok := true) rfl 2 rfl rfl
theorem d_154_66 {B : zeB} {im : Nat → Nat → Int32} {lm : Nat → Nat → Int64} (o0 : Option Value) (o1 : Option Value) (o2 : Option Value)  : zeRun 154 66 [o0, o1, o2] [] (zk B im lm) = some (some (.int 1), (zk B im lm)) := ze_ret (ok := true) rfl 3 rfl rfl
theorem d_154_15 {B : zeB} {im : Nat → Nat → Int32} {lm : Nat → Nat → Int64} (l1 : Int32) (l2 : Int32) (c0 : zeInb l1 6 = true) (c1 : zeInb l2 6 = true) : zeRun 154 15 [some (.ref 32), some (.int l1), some (.int l2)] [] (zk B im lm) = if (im 33 (Int32.toNatClampNeg l1)) ≤ (im 33 (Int32.toNatClampNeg l2)) then zeRun 154 34 [some (.ref 32), some (.int l1), some (.int l2)] [] (zk B im lm) else zeRun 154 30 [some (.ref 32), some (.int l1), some (.int l2)] [] (zk B im lm) := ze_if (ok := (zeInb l2 6 && (zeInb l1 6 && true))) rfl 9 rfl (zeA2 c1 (zeA2 c0 rfl))
theorem d_154_34 {B : zeB} {im : Nat → Nat → Int32} {lm : Nat → Nat → Int64} (o0 : Option Value) (o1 : Option Value) (o2 : Option Value)  : zeRun 154 34 [o0, o1, o2] [] (zk B im lm) = some (some (.int 0), (zk B im lm)) := ze_ret (ok := true) rfl 2 rfl rfl
theorem d_154_30 {B : zeB} {im : Nat → Nat → Int32} {lm : Nat → Nat → Int64} (o0 : Option Value) (o1 : Option Value) (o2 : Option Value)  : zeRun 154 30 [o0, o1, o2] [] (zk B im lm) = some (some (.int 1), (zk B im lm)) := ze_ret (ok := true) rfl 3 rfl rfl
def m_154 (l1 : Int32) (l2 : Int32) (im : zI) (lm : zJ) : zR :=
    zCk (zeInb l1 6) <|
    zCk (zeInb l2 6) <|
    some (if (im 33 (Int32.toNatClampNeg l1)) = (im 33 (Int32.toNatClampNeg l2)) then if (im 34 (Int32.toNatClampNeg l1)) = (im 34 (Int32.toNatClampNeg l2)) then if (im 35 (Int32.toNatClampNeg l1)) = (im 35 (Int32.toNatClampNeg l2)) then if l2 ≤ l1 then 0 else 1 else if (im 35 (Int32.toNatClampNeg l2)) ≤ (im 35 (Int32.toNatClampNeg l1)) then 0 else 1 else if (im 34 (Int32.toNatClampNeg l1)) ≤ (im 34 (Int32.toNatClampNeg l2)) then 0 else 1 else if (im 33 (Int32.toNatClampNeg l1)) ≤ (im 33 (Int32.toNatClampNeg l2)) then 0 else 1, im, lm)
theorem m_154_ok {B : zeB} (l1 : Int32) (l2 : Int32) (im : zI) (lm : zJ) : zL B 1 (m_154 l1 l2 im lm) (zeRun 154 0 [some (.ref 32), some (.int l1), some (.int l2)] [] (zk B im lm)) := by
  unfold m_154
  refine zL_ck fun c1 => ?_
  refine zL_ck fun c2 => ?_
  refine zL_ifm (d_154_0 _ _ c1 c2) (fun h => ?_) (fun h => ?_)
  · repeat rw [if_pos h]
    refine zL_ifm (d_154_36 _ _ c1 c2) (fun h => ?_) (fun h => ?_)
    · repeat rw [if_pos h]
      refine zL_ifm (d_154_72 _ _ c1 c2) (fun h => ?_) (fun h => ?_)
      · repeat rw [if_pos h]
        refine zL_ifm (d_154_108 _ _ _) (fun h => ?_) (fun h => ?_)
        · repeat rw [if_pos h]
          exact zL_ret (d_154_117 _ _ _)
        · repeat rw [if_neg h]
          exact zL_ret (d_154_113 _ _ _)
      · repeat rw [if_neg h]
        refine zL_ifm (d_154_87 _ _ c1 c2) (fun h => ?_) (fun h => ?_)
        · repeat rw [if_pos h]
          exact zL_ret (d_154_106 _ _ _)
        · repeat rw [if_neg h]
          exact zL_ret (d_154_102 _ _ _)
    · repeat rw [if_neg h]
      refine zL_ifm (d_154_51 _ _ c1 c2) (fun h => ?_) (fun h => ?_)
      · repeat rw [if_pos h]
        exact zL_ret (d_154_70 _ _ _)
      · repeat rw [if_neg h]
        exact zL_ret (d_154_66 _ _ _)
  · repeat rw [if_neg h]
    refine zL_ifm (d_154_15 _ _ c1 c2) (fun h => ?_) (fun h => ?_)
    · repeat rw [if_pos h]
      exact zL_ret (d_154_34 _ _ _)
    · repeat rw [if_neg h]
      exact zL_ret (d_154_30 _ _ _)
/-! X7_placeOf -/
theorem d_155_0 {B : zeB} {im : Nat → Nat → Int32} {lm : Nat → Nat → Int64} (l1 : Int32) (o2 : Option Value) (o3 : Option Value)  : zeRun 155 0 [some (.ref 16), some (.int l1), o2, o3] [] (zk B im lm) = zeRun 155 4 [some (.ref 16), some (.int l1), some (.int 0), some (.int 0)] [] (zk B im lm) := ze_go (ok := true) rfl 4 rfl rfl
theorem d_155_4 {B : zeB} {im : Nat → Nat → Int32} {lm : Nat → Nat → Int64} (l1 : Int32) (l2 : Int32) (l3 : Int32)  : zeRun 155 4 [some (.ref 16), some (.int l1), some (.int l2), some (.int l3)] [] (zk B im lm) = if (im 17 1) ≤ l3 then zeRun 155 36 [some (.ref 16), some (.int l1), some (.int l2), some (.int l3)] [] (zk B im lm) else zeRun 155 15 [some (.ref 16), some (.int l1), some (.int l2), some (.int l3)] [] (zk B im lm) := ze_if (ok := true) rfl 5 rfl rfl
theorem d_155_36 {B : zeB} {im : Nat → Nat → Int32} {lm : Nat → Nat → Int64} (o0 : Option Value) (o1 : Option Value) (l2 : Int32) (o3 : Option Value)  : zeRun 155 36 [o0, o1, some (.int l2), o3] [] (zk B im lm) = some (some (.int l2), (zk B im lm)) := ze_ret (ok := true) rfl 2 rfl rfl
theorem d_155_15 {B : zeB} {im : Nat → Nat → Int32} {lm : Nat → Nat → Int64} (l1 : Int32) (l2 : Int32) (l3 : Int32)  : zeRun 155 15 [some (.ref 16), some (.int l1), some (.int l2), some (.int l3)] [] (zk B im lm) = zeBh 155 24 [some (.ref 16), some (.int l1), some (.int l2), some (.int l3)] [] (zeRun 154 0 [some (.ref 32), some (.int l3), some (.int l1)] [] (zk B im lm)) := ze_call (ok := true) rfl 5 rfl rfl rfl
theorem d_155_24 {B : zeB} {im : Nat → Nat → Int32} {lm : Nat → Nat → Int64} (l1 : Int32) (l2 : Int32) (l3 : Int32) (s0 : Int32)  : zeRun 155 24 [some (.ref 16), some (.int l1), some (.int l2), some (.int l3)] [.int s0] (zk B im lm) = if s0 = 0 then zeRun 155 30 [some (.ref 16), some (.int l1), some (.int l2), some (.int l3)] [] (zk B im lm) else zeRun 155 27 [some (.ref 16), some (.int l1), some (.int l2), some (.int l3)] [] (zk B im lm) := ze_if (ok := true) rfl 1 rfl rfl
theorem d_155_30 {B : zeB} {im : Nat → Nat → Int32} {lm : Nat → Nat → Int64} (l1 : Int32) (l2 : Int32) (l3 : Int32)  : zeRun 155 30 [some (.ref 16), some (.int l1), some (.int l2), some (.int l3)] [] (zk B im lm) = zeRun 155 4 [some (.ref 16), some (.int l1), some (.int l2), some (.int (l3 + 1))] [] (zk B im lm) := ze_go (ok := true) rfl 2 rfl rfl
theorem d_155_27 {B : zeB} {im : Nat → Nat → Int32} {lm : Nat → Nat → Int64} (l1 : Int32) (l2 : Int32) (l3 : Int32)  : zeRun 155 27 [some (.ref 16), some (.int l1), some (.int l2), some (.int l3)] [] (zk B im lm) = zeRun 155 4 [some (.ref 16), some (.int l1), some (.int (l2 + 1)), some (.int (l3 + 1))] [] (zk B im lm) := ze_go (ok := true) rfl 3 rfl rfl
def F_155_4  : Nat → Int32 → Int32 → Int32 → zI → zJ → zR
  | 0, _, _, _, _, _ => none
  | n + 1, l1, l2, l3, im, lm =>
    if (im 17 1) ≤ l3 then
      some (l2, im, lm)
    else
      zBd (m_154 l3 l1 im lm) fun v1 im1 lm1 =>
      F_155_4  n l1 (if v1 = 0 then l2 else (l2 + 1)) (l3 + 1) im1 lm1
theorem F_155_4_ok {B : zeB} : ∀ (n : Nat) (l1 : Int32) (l2 : Int32) (l3 : Int32)  (im : zI) (lm : zJ), zL B 1 (F_155_4  n l1 l2 l3 im lm) (zeRun 155 4 [some (.ref 16), some (.int l1), some (.int l2), some (.int l3)] [] (zk B im lm)) := by
  intro n
  induction n with
  | zero => intros; exact zL_none
  | succ n ih =>
    intro l1 l2 l3 im lm
    unfold F_155_4
    refine zL_if (d_155_4 _ _ _) (fun h => ?_) (fun h => ?_)
    · skip
      exact zL_ret (d_155_36 _ _ _ _)
    · skip
      refine zL_bd (d_155_15 _ _ _) (m_154_ok _ _ _ _) fun v1 im1 lm1 => ?_
      refine zL_ifm (d_155_24 _ _ _ _) (fun h => ?_) (fun h => ?_)
      · repeat rw [if_pos h]
        refine zL_eq (d_155_30 _ _ _) ?_
        exact ih _ _ _ _ _
      · repeat rw [if_neg h]
        refine zL_eq (d_155_27 _ _ _) ?_
        exact ih _ _ _ _ _
def m_155 (l1 : Int32) (im : zI) (lm : zJ) : zR :=
    F_155_4  2000 l1 0 0 im lm
theorem m_155_ok {B : zeB} (l1 : Int32) (im : zI) (lm : zJ) : zL B 1 (m_155 l1 im lm) (zeRun 155 0 [some (.ref 16), some (.int l1), none, none] [] (zk B im lm)) := by
  unfold m_155
  refine zL_eq (d_155_0 _ _ _) ?_
  exact F_155_4_ok  _ _ _ _ _ _
/-! X7_player -/
theorem d_156_0 {B : zeB} {im : Nat → Nat → Int32} {lm : Nat → Nat → Int64} (l1 : Int32) (l2 : Int32)  : zeRun 156 0 [some (.ref 16), some (.int l1), some (.int l2)] [] (zk B im lm) = zeBh 156 5 [some (.ref 16), some (.int l1), some (.int l2)] [] (zeRun 38 0 [some (.ref 16), some (.int l1)] [] (zk B im lm)) := ze_call (ok := true) rfl 3 rfl rfl rfl
theorem d_156_5 {B : zeB} {im : Nat → Nat → Int32} {lm : Nat → Nat → Int64} (l1 : Int32) (l2 : Int32) (s0 : Int32)  : zeRun 156 5 [some (.ref 16), some (.int l1), some (.int l2)] [.int s0] (zk B im lm) = if s0 = 0 then zeRun 156 8 [some (.ref 16), some (.int l1), some (.int l2)] [] (zk B im lm) else zeRun 156 11 [some (.ref 16), some (.int l1), some (.int l2)] [] (zk B im lm) := ze_if (ok := true) rfl 1 rfl rfl
theorem d_156_8 {B : zeB} {im : Nat → Nat → Int32} {lm : Nat → Nat → Int64} (o0 : Option Value) (o1 : Option Value) (o2 : Option Value)  : zeRun 156 8 [o0, o1, o2] [] (zk B im lm) = some (some (.int (-10000001)), (zk B im lm)) := ze_ret (ok := true) rfl 2 rfl rfl
theorem d_156_11 {B : zeB} {im : Nat → Nat → Int32} {lm : Nat → Nat → Int64} (l1 : Int32) (l2 : Int32)  : zeRun 156 11 [some (.ref 16), some (.int l1), some (.int l2)] [] (zk B im lm) = zeRun 156 (zeSw l2 164 [(0, 60), (1, 70), (2, 80), (3, 90), (4, 106), (5, 112), (6, 141), (7, 154)]) [some (.ref 16), some (.int l1), some (.int l2)] [] (zk B im lm) := ze_go (ok := true) rfl 2 rfl rfl
theorem d_156_60 {B : zeB} {im : Nat → Nat → Int32} {lm : Nat → Nat → Int64} (l1 : Int32) (o2 : Option Value) (c0 : zeInb l1 6 = true) : zeRun 156 60 [some (.ref 16), some (.int l1), o2] [] (zk B im lm) = some (some (.int (im 33 (Int32.toNatClampNeg l1))), (zk B im lm)) := ze_ret (ok := (zeInb l1 6 && true)) rfl 6 rfl (zeA2 c0 rfl)
theorem d_156_70 {B : zeB} {im : Nat → Nat → Int32} {lm : Nat → Nat → Int64} (l1 : Int32) (o2 : Option Value) (c0 : zeInb l1 6 = true) : zeRun 156 70 [some (.ref 16), some (.int l1), o2] [] (zk B im lm) = some (some (.int (im 34 (Int32.toNatClampNeg l1))), (zk B im lm)) := ze_ret (ok := (zeInb l1 6 && true)) rfl 6 rfl (zeA2 c0 rfl)
theorem d_156_80 {B : zeB} {im : Nat → Nat → Int32} {lm : Nat → Nat → Int64} (l1 : Int32) (o2 : Option Value) (c0 : zeInb l1 6 = true) : zeRun 156 80 [some (.ref 16), some (.int l1), o2] [] (zk B im lm) = some (some (.int (im 35 (Int32.toNatClampNeg l1))), (zk B im lm)) := ze_ret (ok := (zeInb l1 6 && true)) rfl 6 rfl (zeA2 c0 rfl)
theorem d_156_90 {B : zeB} {im : Nat → Nat → Int32} {lm : Nat → Nat → Int64} (l1 : Int32) (o2 : Option Value) (c0 : zeInb l1 6 = true) : zeRun 156 90 [some (.ref 16), some (.int l1), o2] [] (zk B im lm) = zeBh 156 104 [some (.ref 16), some (.int l1), o2] [.int 1] (zeRun 153 0 [some (.ref 16), some (.int (im 33 (Int32.toNatClampNeg l1))), none, none] [] (zk B im lm)) := ze_call (ok := (zeInb l1 6 && true)) rfl 8 rfl rfl (zeA2 c0 rfl)
theorem d_156_104 {B : zeB} {im : Nat → Nat → Int32} {lm : Nat → Nat → Int64} (o0 : Option Value) (o1 : Option Value) (o2 : Option Value) (s0 : Int32) (s1 : Int32)  : zeRun 156 104 [o0, o1, o2] [.int s1, .int s0] (zk B im lm) = some (some (.int (s0 + s1)), (zk B im lm)) := ze_ret (ok := true) rfl 2 rfl rfl
theorem d_156_106 {B : zeB} {im : Nat → Nat → Int32} {lm : Nat → Nat → Int64} (l1 : Int32) (o2 : Option Value)  : zeRun 156 106 [some (.ref 16), some (.int l1), o2] [] (zk B im lm) = zeBh 156 111 [some (.ref 16), some (.int l1), o2] [] (zeRun 155 0 [some (.ref 16), some (.int l1), none, none] [] (zk B im lm)) := ze_call (ok := true) rfl 3 rfl rfl rfl
theorem d_156_111 {B : zeB} {im : Nat → Nat → Int32} {lm : Nat → Nat → Int64} (o0 : Option Value) (o1 : Option Value) (o2 : Option Value) (s0 : Int32)  : zeRun 156 111 [o0, o1, o2] [.int s0] (zk B im lm) = some (some (.int s0), (zk B im lm)) := ze_ret (ok := true) rfl 1 rfl rfl
theorem d_156_112 {B : zeB} {im : Nat → Nat → Int32} {lm : Nat → Nat → Int64} (l1 : Int32) (o2 : Option Value)  : zeRun 156 112 [some (.ref 16), some (.int l1), o2] [] (zk B im lm) = if (im 17 0) = 1 then zeRun 156 123 [some (.ref 16), some (.int l1), o2] [] (zk B im lm) else zeRun 156 138 [some (.ref 16), some (.int l1), o2] [] (zk B im lm) := ze_if (ok := true) rfl 5 rfl rfl
theorem d_156_123 {B : zeB} {im : Nat → Nat → Int32} {lm : Nat → Nat → Int64} (l1 : Int32) (o2 : Option Value) (c0 : zeInb l1 6 = true) : zeRun 156 123 [some (.ref 16), some (.int l1), o2] [] (zk B im lm) = some (some (.int (im 20 (Int32.toNatClampNeg l1))), (zk B im lm)) := ze_ret (ok := (zeInb l1 6 && true)) rfl 8 rfl (zeA2 c0 rfl)
theorem d_156_138 {B : zeB} {im : Nat → Nat → Int32} {lm : Nat → Nat → Int64} (o0 : Option Value) (o1 : Option Value) (o2 : Option Value)  : zeRun 156 138 [o0, o1, o2] [] (zk B im lm) = some (some (.int (-10000005)), (zk B im lm)) := ze_ret (ok := true) rfl 2 rfl rfl
theorem d_156_141 {B : zeB} {im : Nat → Nat → Int32} {lm : Nat → Nat → Int64} (l1 : Int32) (o2 : Option Value) (c0 : zeInb l1 6 = true) : zeRun 156 141 [some (.ref 16), some (.int l1), o2] [] (zk B im lm) = some (some (.int (im 25 (Int32.toNatClampNeg l1))), (zk B im lm)) := ze_ret (ok := (zeInb l1 6 && true)) rfl 7 rfl (zeA2 c0 rfl)
theorem d_156_154 {B : zeB} {im : Nat → Nat → Int32} {lm : Nat → Nat → Int64} (l1 : Int32) (o2 : Option Value) (c0 : zeInb l1 6 = true) : zeRun 156 154 [some (.ref 16), some (.int l1), o2] [] (zk B im lm) = some (some (.int (im 36 (Int32.toNatClampNeg l1))), (zk B im lm)) := ze_ret (ok := (zeInb l1 6 && true)) rfl 6 rfl (zeA2 c0 rfl)
theorem d_156_164 {B : zeB} {im : Nat → Nat → Int32} {lm : Nat → Nat → Int64} (o0 : Option Value) (o1 : Option Value) (o2 : Option Value)  : zeRun 156 164 [o0, o1, o2] [] (zk B im lm) = some (some (.int (-10000002)), (zk B im lm)) := ze_ret (ok := true) rfl 2 rfl rfl
def m_156 (l1 : Int32) (l2 : Int32) (im : zI) (lm : zJ) : zR :=
    if (if l1 < 0 then 0 else if (im 17 1) ≤ l1 then 0 else 1 : Int32) = 0 then
      some ((-10000001), im, lm)
    else
      if l2 = 0 then
        zCk (zeInb l1 6) <|
        some ((im 33 (Int32.toNatClampNeg l1)), im, lm)
      else
        if l2 = 1 then
          zCk (zeInb l1 6) <|
          some ((im 34 (Int32.toNatClampNeg l1)), im, lm)
        else
          if l2 = 2 then
            zCk (zeInb l1 6) <|
            some ((im 35 (Int32.toNatClampNeg l1)), im, lm)
          else
            if l2 = 3 then
              zCk (zeInb l1 6) <|
              zBd (m_153 (im 33 (Int32.toNatClampNeg l1)) im lm) fun v2 im2 lm2 =>
              some ((1 + v2), im2, lm2)
            else
              if l2 = 4 then
                zBd (m_155 l1 im lm) fun v3 im3 lm3 =>
                some (v3, im3, lm3)
              else
                if l2 = 5 then
                  zCk (if (im 17 0) = 1 then zeInb l1 6 else true) <|
                  some (if (im 17 0) = 1 then (im 20 (Int32.toNatClampNeg l1)) else (-10000005), im, lm)
                else
                  if l2 = 6 then
                    zCk (zeInb l1 6) <|
                    some ((im 25 (Int32.toNatClampNeg l1)), im, lm)
                  else
                    if l2 = 7 then
                      zCk (zeInb l1 6) <|
                      some ((im 36 (Int32.toNatClampNeg l1)), im, lm)
                    else
                      some ((-10000002), im, lm)
theorem m_156_ok {B : zeB} (l1 : Int32) (l2 : Int32) (im : zI) (lm : zJ) : zL B 1 (m_156 l1 l2 im lm) (zeRun 156 0 [some (.ref 16), some (.int l1), some (.int l2)] [] (zk B im lm)) := by
  unfold m_156
  refine zL_bdp (e := (if l1 < 0 then 0 else if (im 17 1) ≤ l1 then 0 else 1 : Int32)) (d_156_0 _ _) (m_38_ok _ _ _) ?_
  refine zL_if (d_156_5 _ _ _) (fun h => ?_) (fun h => ?_)
  · skip
    exact zL_ret (d_156_8 _ _ _)
  · skip
    refine zL_eq (d_156_11 _ _) ?_
    refine zL_sw (fun h => ?_) (fun h => ?_)
    · skip
      refine zL_ck fun c1 => ?_
      exact zL_ret (d_156_60 _ _ c1)
    refine zL_sw (fun h => ?_) (fun h => ?_)
    · skip
      refine zL_ck fun c2 => ?_
      exact zL_ret (d_156_70 _ _ c2)
    refine zL_sw (fun h => ?_) (fun h => ?_)
    · skip
      refine zL_ck fun c3 => ?_
      exact zL_ret (d_156_80 _ _ c3)
    refine zL_sw (fun h => ?_) (fun h => ?_)
    · skip
      refine zL_ck fun c4 => ?_
      refine zL_bd (d_156_90 _ _ c4) (m_153_ok _ _ _) fun v2 im2 lm2 => ?_
      exact zL_ret (d_156_104 _ _ _ _ _)
    refine zL_sw (fun h => ?_) (fun h => ?_)
    · skip
      refine zL_bd (d_156_106 _ _) (m_155_ok _ _ _) fun v3 im3 lm3 => ?_
      exact zL_ret (d_156_111 _ _ _ _)
    refine zL_sw (fun h => ?_) (fun h => ?_)
    · skip
      refine zL_ifm (d_156_112 _ _) (fun h => ?_) (fun h => ?_)
      · repeat rw [if_pos h]
        refine zL_ck fun c5 => ?_
        exact zL_ret (d_156_123 _ _ c5)
      · repeat rw [if_neg h]
        refine zL_ckt ?_
        exact zL_ret (d_156_138 _ _ _)
    refine zL_sw (fun h => ?_) (fun h => ?_)
    · skip
      refine zL_ck fun c6 => ?_
      exact zL_ret (d_156_141 _ _ c6)
    refine zL_sw (fun h => ?_) (fun h => ?_)
    · skip
      refine zL_ck fun c7 => ?_
      exact zL_ret (d_156_154 _ _ c7)
    refine zL_swd ?_
    exact zL_ret (d_156_164 _ _ _)
/-! X7_doClose -/
theorem d_92_0 {B : zeB} {im : Nat → Nat → Int32} {lm : Nat → Nat → Int64}   : zeRun 92 0 [some (.ref 16)] [] (zk B im lm) = if (im 17 0) = 1 then zeRun 92 17 [some (.ref 16)] [] (zk B im lm) else zeRun 92 11 [some (.ref 16)] [] (zk B im lm) := ze_if (ok := true) rfl 5 rfl rfl
theorem d_92_17 {B : zeB} {im : Nat → Nat → Int32} {lm : Nat → Nat → Int64}   : zeRun 92 17 [some (.ref 16)] [] (zk B im lm) = zeBh 92 38 [some (.ref 16)] [] (zeRun 29 0 [some (.int (im 19 4))] [] (zk B (zeU2 im 17 0 0) lm)) := ze_call (ok := true) rfl 9 rfl rfl rfl
theorem d_92_38 {B : zeB} {im : Nat → Nat → Int32} {lm : Nat → Nat → Int64} (o0 : Option Value) (s0 : Int32)  : zeRun 92 38 [o0] [.int s0] (zk B im lm) = some (some (.int s0), (zk B im lm)) := ze_ret (ok := true) rfl 1 rfl rfl
theorem d_92_11 {B : zeB} {im : Nat → Nat → Int32} {lm : Nat → Nat → Int64}   : zeRun 92 11 [some (.ref 16)] [] (zk B im lm) = zeBh 92 16 [some (.ref 16)] [] (zeRun 17 0 [some (.ref 16), some (.int 1)] [] (zk B im lm)) := ze_call (ok := true) rfl 3 rfl rfl rfl
theorem d_92_16 {B : zeB} {im : Nat → Nat → Int32} {lm : Nat → Nat → Int64} (o0 : Option Value) (s0 : Int32)  : zeRun 92 16 [o0] [.int s0] (zk B im lm) = some (some (.int s0), (zk B im lm)) := ze_ret (ok := true) rfl 1 rfl rfl
def m_92  (im : zI) (lm : zJ) : zR :=
    if (im 17 0) = 1 then
      zBd (m_29 (im 19 4) (zeU2 im 17 0 0) lm) fun v1 im1 lm1 =>
      some (v1, im1, lm1)
    else
      zBd (m_17 1 im lm) fun v2 im2 lm2 =>
      some (v2, im2, lm2)
theorem m_92_ok {B : zeB}  (im : zI) (lm : zJ) : zL B 1 (m_92  im lm) (zeRun 92 0 [some (.ref 16)] [] (zk B im lm)) := by
  unfold m_92
  refine zL_if d_92_0 (fun h => ?_) (fun h => ?_)
  · skip
    refine zL_bd d_92_17 (m_29_ok _ _ _) fun v1 im1 lm1 => ?_
    exact zL_ret (d_92_38 _ _)
  · skip
    refine zL_bd d_92_11 (m_17_ok _ _ _) fun v2 im2 lm2 => ?_
    exact zL_ret (d_92_16 _ _)
/-! X7_close -/
theorem d_93_0 {B : zeB} {im : Nat → Nat → Int32} {lm : Nat → Nat → Int64}   : zeRun 93 0 [some (.ref 16)] [] (zk B im lm) = zeBh 93 11 [some (.ref 16)] [] (zeRun 15 0 [some (.ref 42), some (.ref 17)] [] (zk B im lm)) := ze_call (ok := true) rfl 5 rfl rfl rfl
theorem d_93_11 {B : zeB} {im : Nat → Nat → Int32} {lm : Nat → Nat → Int64}   : zeRun 93 11 [some (.ref 16)] [] (zk B im lm) = zeBh 93 16 [some (.ref 16)] [.ref 16] (zeRun 92 0 [some (.ref 16)] [] (zk B im lm)) := ze_call (ok := true) rfl 3 rfl rfl rfl
theorem d_93_16 {B : zeB} {im : Nat → Nat → Int32} {lm : Nat → Nat → Int64} (o0 : Option Value) (s1 : Int32)  : zeRun 93 16 [o0] [.int s1, .ref 16] (zk B im lm) = zeBh 93 19 [o0] [] (zeRun 21 0 [some (.ref 16), some (.int s1)] [] (zk B im lm)) := ze_call (ok := true) rfl 1 rfl rfl rfl
theorem d_93_19 {B : zeB} {im : Nat → Nat → Int32} {lm : Nat → Nat → Int64} (o0 : Option Value) (s0 : Int32)  : zeRun 93 19 [o0] [.int s0] (zk B im lm) = some (some (.int s0), (zk B im lm)) := ze_ret (ok := true) rfl 1 rfl rfl
def m_93  (im : zI) (lm : zJ) : zR :=
    zBd (m_15  im lm) fun _ im1 lm1 =>
    zBd (m_92  im1 lm1) fun v2 im2 lm2 =>
    zBd (m_21 v2 im2 lm2) fun v3 im3 lm3 =>
    some (v3, im3, lm3)
theorem m_93_ok {B : zeB}  (im : zI) (lm : zJ) : zL B 1 (m_93  im lm) (zeRun 93 0 [some (.ref 16)] [] (zk B im lm)) := by
  unfold m_93
  refine zL_bdv d_93_0 (m_15_ok _ _) fun _ im1 lm1 => ?_
  refine zL_bd d_93_11 (m_92_ok _ _) fun v2 im2 lm2 => ?_
  refine zL_bd (d_93_16 _ _) (m_21_ok _ _ _) fun v3 im3 lm3 => ?_
  exact zL_ret (d_93_19 _ _)
/-! X7_playerToAnswer -/
theorem d_8_0 {B : zeB} {im : Nat → Nat → Int32} {lm : Nat → Nat → Int64}   : zeRun 8 0 [some (.ref 16)] [] (zk B im lm) = zeRun 8 (zeSw (im 17 0) 43 [(1, 32), (3, 38)]) [some (.ref 16)] [] (zk B im lm) := ze_go (ok := true) rfl 4 rfl rfl
theorem d_8_32 {B : zeB} {im : Nat → Nat → Int32} {lm : Nat → Nat → Int64}   : zeRun 8 32 [some (.ref 16)] [] (zk B im lm) = zeBh 8 37 [some (.ref 16)] [] (zeRun 69 0 [some (.ref 16), some (.int 0), none] [] (zk B im lm)) := ze_call (ok := true) rfl 3 rfl rfl rfl
theorem d_8_37 {B : zeB} {im : Nat → Nat → Int32} {lm : Nat → Nat → Int64} (o0 : Option Value) (s0 : Int32)  : zeRun 8 37 [o0] [.int s0] (zk B im lm) = some (some (.int s0), (zk B im lm)) := ze_ret (ok := true) rfl 1 rfl rfl
theorem d_8_38 {B : zeB} {im : Nat → Nat → Int32} {lm : Nat → Nat → Int64}   : zeRun 8 38 [some (.ref 16)] [] (zk B im lm) = zeBh 8 42 [some (.ref 16)] [] (zeRun 39 0 [some (.ref 16)] [] (zk B im lm)) := ze_call (ok := true) rfl 2 rfl rfl rfl
theorem d_8_42 {B : zeB} {im : Nat → Nat → Int32} {lm : Nat → Nat → Int64} (o0 : Option Value) (s0 : Int32)  : zeRun 8 42 [o0] [.int s0] (zk B im lm) = some (some (.int s0), (zk B im lm)) := ze_ret (ok := true) rfl 1 rfl rfl
theorem d_8_43 {B : zeB} {im : Nat → Nat → Int32} {lm : Nat → Nat → Int64}   : zeRun 8 43 [some (.ref 16)] [] (zk B im lm) = zeBh 8 53 [some (.ref 16)] [] (zeRun 82 0 [some (.ref 23), none] [] (zk B im lm)) := ze_call (ok := true) rfl 4 rfl rfl rfl
theorem d_8_53 {B : zeB} {im : Nat → Nat → Int32} {lm : Nat → Nat → Int64} (o0 : Option Value) (s0 : Int32)  : zeRun 8 53 [o0] [.int s0] (zk B im lm) = some (some (.int s0), (zk B im lm)) := ze_ret (ok := true) rfl 1 rfl rfl
def m_8  (im : zI) (lm : zJ) : zR :=
    if (im 17 0) = 1 then
      zBd (m_69 0 im lm) fun v1 im1 lm1 =>
      some (v1, im1, lm1)
    else
      if (im 17 0) = 3 then
        some ((if (im 17 1) = 0 then (-10000005) else (im 32 0) : Int32), im, lm)
      else
        zBd (m_82  im lm) fun v3 im3 lm3 =>
        some (v3, im3, lm3)
theorem m_8_ok {B : zeB}  (im : zI) (lm : zJ) : zL B 1 (m_8  im lm) (zeRun 8 0 [some (.ref 16)] [] (zk B im lm)) := by
  unfold m_8
  refine zL_eq d_8_0 ?_
  refine zL_sw (fun h => ?_) (fun h => ?_)
  · skip
    refine zL_bd d_8_32 (m_69_ok _ _ _) fun v1 im1 lm1 => ?_
    exact zL_ret (d_8_37 _ _)
  refine zL_sw (fun h => ?_) (fun h => ?_)
  · skip
    refine zL_bdp (e := (if (im 17 1) = 0 then (-10000005) else (im 32 0) : Int32)) d_8_38 (m_39_ok _ _) ?_
    exact zL_ret (d_8_42 _ _)
  refine zL_swd ?_
  refine zL_bd d_8_43 (m_82_ok _ _) fun v3 im3 lm3 => ?_
  exact zL_ret (d_8_53 _ _)
/-! X2_isFull -/
theorem d_70_0 {B : zeB} {im : Nat → Nat → Int32} {lm : Nat → Nat → Int64}   : zeRun 70 0 [some (.ref 26)] [] (zk B im lm) = if (im 26 0) < 60 then zeRun 70 13 [some (.ref 26)] [] (zk B im lm) else zeRun 70 9 [some (.ref 26)] [] (zk B im lm) := ze_if (ok := true) rfl 4 rfl rfl
theorem d_70_13 {B : zeB} {im : Nat → Nat → Int32} {lm : Nat → Nat → Int64} (o0 : Option Value)  : zeRun 70 13 [o0] [] (zk B im lm) = some (some (.int 0), (zk B im lm)) := ze_ret (ok := true) rfl 2 rfl rfl
theorem d_70_9 {B : zeB} {im : Nat → Nat → Int32} {lm : Nat → Nat → Int64} (o0 : Option Value)  : zeRun 70 9 [o0] [] (zk B im lm) = some (some (.int 1), (zk B im lm)) := ze_ret (ok := true) rfl 3 rfl rfl
def m_70  (im : zI) (lm : zJ) : zR :=
    some (if (im 26 0) < 60 then 0 else 1, im, lm)
theorem m_70_ok {B : zeB}  (im : zI) (lm : zJ) : zL B 1 (m_70  im lm) (zeRun 70 0 [some (.ref 26)] [] (zk B im lm)) := by
  unfold m_70
  refine zL_ifm d_70_0 (fun h => ?_) (fun h => ?_)
  · repeat rw [if_pos h]
    exact zL_ret (d_70_13 _)
  · repeat rw [if_neg h]
    exact zL_ret (d_70_9 _)
/-! X2_append -/
theorem d_71_0 {B : zeB} {im : Nat → Nat → Int32} {lm : Nat → Nat → Int64} (l1 : Int32) (l2 : Int32) (l3 : Int32) (l4 : Int32) (l5 : Int32)  : zeRun 71 0 [some (.ref 26), some (.int l1), some (.int l2), some (.int l3), some (.int l4), some (.int l5)] [] (zk B im lm) = zeBh 71 4 [some (.ref 26), some (.int l1), some (.int l2), some (.int l3), some (.int l4), some (.int l5)] [] (zeRun 70 0 [some (.ref 26)] [] (zk B im lm)) := ze_call (ok := true) rfl 2 rfl rfl rfl
theorem d_71_4 {B : zeB} {im : Nat → Nat → Int32} {lm : Nat → Nat → Int64} (l1 : Int32) (l2 : Int32) (l3 : Int32) (l4 : Int32) (l5 : Int32) (s0 : Int32)  : zeRun 71 4 [some (.ref 26), some (.int l1), some (.int l2), some (.int l3), some (.int l4), some (.int l5)] [.int s0] (zk B im lm) = if s0 = 0 then zeRun 71 8 [some (.ref 26), some (.int l1), some (.int l2), some (.int l3), some (.int l4), some (.int l5)] [] (zk B im lm) else zeRun 71 7 [some (.ref 26), some (.int l1), some (.int l2), some (.int l3), some (.int l4), some (.int l5)] [] (zk B im lm) := ze_if (ok := true) rfl 1 rfl rfl
theorem d_71_8 {B : zeB} {im : Nat → Nat → Int32} {lm : Nat → Nat → Int64} (l1 : Int32) (l2 : Int32) (l3 : Int32) (l4 : Int32) (l5 : Int32) (c0 : zeInb (im 26 0) 60 = true) (c1 : zeInb (im 26 0) 60 = true) (c2 : zeInb (im 26 0) 60 = true) (c3 : zeInb (im 26 0) 60 = true) (c4 : zeInb (im 26 0) 60 = true) : zeRun 71 8 [some (.ref 26), some (.int l1), some (.int l2), some (.int l3), some (.int l4), some (.int l5)] [] (zk B im lm) = some (none, (zk B (zeU2 (zeU2 (zeU2 (zeU2 (zeU2 (zeU2 im 27 (Int32.toNatClampNeg (im 26 0)) l1) 28 (Int32.toNatClampNeg (im 26 0)) l2) 29 (Int32.toNatClampNeg (im 26 0)) l3) 30 (Int32.toNatClampNeg (im 26 0)) l4) 31 (Int32.toNatClampNeg (im 26 0)) l5) 26 0 ((im 26 0) + 1)) lm)) := ze_ret (ok := (zeInb (im 26 0) 60 && (zeInb (im 26 0) 60 && (zeInb (im 26 0) 60 && (zeInb (im 26 0) 60 && (zeInb (im 26 0) 60 && true)))))) rfl 37 rfl (zeA2 c4 (zeA2 c3 (zeA2 c2 (zeA2 c1 (zeA2 c0 rfl)))))
theorem d_71_7 {B : zeB} {im : Nat → Nat → Int32} {lm : Nat → Nat → Int64} (o0 : Option Value) (o1 : Option Value) (o2 : Option Value) (o3 : Option Value) (o4 : Option Value) (o5 : Option Value)  : zeRun 71 7 [o0, o1, o2, o3, o4, o5] [] (zk B im lm) = some (none, (zk B im lm)) := ze_ret (ok := true) rfl 1 rfl rfl
def m_71 (l1 : Int32) (l2 : Int32) (l3 : Int32) (l4 : Int32) (l5 : Int32) (im : zI) (lm : zJ) : zR :=
    zCk (if (if (im 26 0) < 60 then 0 else 1 : Int32) = 0 then zeInb (im 26 0) 60 else true) <|
    some (0, if (if (im 26 0) < 60 then 0 else 1 : Int32) = 0 then (zeU2 (zeU2 (zeU2 (zeU2 (zeU2 (zeU2 im 27 (Int32.toNatClampNeg (im 26 0)) l1) 28 (Int32.toNatClampNeg (im 26 0)) l2) 29 (Int32.toNatClampNeg (im 26 0)) l3) 30 (Int32.toNatClampNeg (im 26 0)) l4) 31 (Int32.toNatClampNeg (im 26 0)) l5) 26 0 ((im 26 0) + 1)) else im, lm)
theorem m_71_ok {B : zeB} (l1 : Int32) (l2 : Int32) (l3 : Int32) (l4 : Int32) (l5 : Int32) (im : zI) (lm : zJ) : zL B 0 (m_71 l1 l2 l3 l4 l5 im lm) (zeRun 71 0 [some (.ref 26), some (.int l1), some (.int l2), some (.int l3), some (.int l4), some (.int l5)] [] (zk B im lm)) := by
  unfold m_71
  refine zL_bdp (e := (if (im 26 0) < 60 then 0 else 1 : Int32)) (d_71_0 _ _ _ _ _) (m_70_ok _ _) ?_
  refine zL_ifm (d_71_4 _ _ _ _ _ _) (fun h => ?_) (fun h => ?_)
  · repeat rw [if_pos h]
    refine zL_ck fun c1 => ?_
    exact zL_retv (d_71_8 _ _ _ _ _ c1 c1 c1 c1 c1)
  · repeat rw [if_neg h]
    refine zL_ckt ?_
    exact zL_retv (d_71_7 _ _ _ _ _ _)
/-! X7_answerOpenClue -/
theorem d_78_0 {B : zeB} {im : Nat → Nat → Int32} {lm : Nat → Nat → Int64} (l1 : Int32) (l2 : Int32) (o3 : Option Value) (o4 : Option Value)  : zeRun 78 0 [some (.ref 16), some (.int l1), some (.int l2), o3, o4] [] (zk B im lm) = zeBh 78 13 [some (.ref 16), some (.int l1), some (.int l2), o3, o4] [] (zeRun 41 0 [some (.int (im 19 0))] [] (zk B im lm)) := ze_call (ok := true) rfl 5 rfl rfl rfl
theorem d_78_13 {B : zeB} {im : Nat → Nat → Int32} {lm : Nat → Nat → Int64} (l1 : Int32) (l2 : Int32) (o3 : Option Value) (o4 : Option Value) (s0 : Int32)  : zeRun 78 13 [some (.ref 16), some (.int l1), some (.int l2), o3, o4] [.int s0] (zk B im lm) = if (im 19 4) = 0 then zeRun 78 27 [some (.ref 16), some (.int l1), some (.int l2), some (.int s0), o4] [] (zk B im lm) else zeRun 78 62 [some (.ref 16), some (.int l1), some (.int l2), some (.int s0), o4] [] (zk B im lm) := ze_if (ok := true) rfl 6 rfl rfl
theorem d_78_27 {B : zeB} {im : Nat → Nat → Int32} {lm : Nat → Nat → Int64} (l1 : Int32) (l2 : Int32) (l3 : Int32) (o4 : Option Value)  : zeRun 78 27 [some (.ref 16), some (.int l1), some (.int l2), some (.int l3), o4] [] (zk B im lm) = if l2 = 0 then zeRun 78 55 [some (.ref 16), some (.int l1), some (.int l2), some (.int l3), o4] [.int l3, .int (im 19 0), .int 0, .int l1, .ref 26] (zk B im lm) else zeRun 78 51 [some (.ref 16), some (.int l1), some (.int l2), some (.int l3), o4] [.int l3, .int (im 19 0), .int 0, .int l1, .ref 26] (zk B im lm) := ze_if (ok := true) rfl 12 rfl rfl
theorem d_78_55 {B : zeB} {im : Nat → Nat → Int32} {lm : Nat → Nat → Int64} (l1 : Int32) (l2 : Int32) (o3 : Option Value) (o4 : Option Value) (s1 : Int32) (s2 : Int32) (s3 : Int32) (s4 : Int32)  : zeRun 78 55 [some (.ref 16), some (.int l1), some (.int l2), o3, o4] [.int s4, .int s3, .int s2, .int s1, .ref 26] (zk B im lm) = zeRun 78 56 [some (.ref 16), some (.int l1), some (.int l2), o3, o4] [.int 0, .int s4, .int s3, .int s2, .int s1, .ref 26] (zk B im lm) := ze_go (ok := true) rfl 1 rfl rfl
theorem d_78_51 {B : zeB} {im : Nat → Nat → Int32} {lm : Nat → Nat → Int64} (l1 : Int32) (l2 : Int32) (o3 : Option Value) (o4 : Option Value) (s1 : Int32) (s2 : Int32) (s3 : Int32) (s4 : Int32)  : zeRun 78 51 [some (.ref 16), some (.int l1), some (.int l2), o3, o4] [.int s4, .int s3, .int s2, .int s1, .ref 26] (zk B im lm) = zeRun 78 56 [some (.ref 16), some (.int l1), some (.int l2), o3, o4] [.int 1, .int s4, .int s3, .int s2, .int s1, .ref 26] (zk B im lm) := ze_go (ok := true) rfl 2 rfl rfl
theorem d_78_62 {B : zeB} {im : Nat → Nat → Int32} {lm : Nat → Nat → Int64} (l1 : Int32) (l2 : Int32) (l3 : Int32) (o4 : Option Value)  : zeRun 78 62 [some (.ref 16), some (.int l1), some (.int l2), some (.int l3), o4] [] (zk B im lm) = if l2 = 0 then zeRun 78 107 [some (.ref 16), some (.int l1), some (.int l2), some (.int l3), some (.int ((l3 * (im 18 2)) / 100))] [.int ((l3 * (im 18 2)) / 100), .int (im 19 0), .int 1, .int l1, .ref 26] (zk B im lm) else zeRun 78 103 [some (.ref 16), some (.int l1), some (.int l2), some (.int l3), some (.int ((l3 * (im 18 2)) / 100))] [.int ((l3 * (im 18 2)) / 100), .int (im 19 0), .int 1, .int l1, .ref 26] (zk B im lm) := ze_if (ok := true) rfl 22 rfl rfl
theorem d_78_107 {B : zeB} {im : Nat → Nat → Int32} {lm : Nat → Nat → Int64} (l1 : Int32) (l2 : Int32) (o3 : Option Value) (o4 : Option Value) (s1 : Int32) (s2 : Int32) (s3 : Int32) (s4 : Int32)  : zeRun 78 107 [some (.ref 16), some (.int l1), some (.int l2), o3, o4] [.int s4, .int s3, .int s2, .int s1, .ref 26] (zk B im lm) = zeRun 78 108 [some (.ref 16), some (.int l1), some (.int l2), o3, o4] [.int 0, .int s4, .int s3, .int s2, .int s1, .ref 26] (zk B im lm) := ze_go (ok := true) rfl 1 rfl rfl
theorem d_78_103 {B : zeB} {im : Nat → Nat → Int32} {lm : Nat → Nat → Int64} (l1 : Int32) (l2 : Int32) (o3 : Option Value) (o4 : Option Value) (s1 : Int32) (s2 : Int32) (s3 : Int32) (s4 : Int32)  : zeRun 78 103 [some (.ref 16), some (.int l1), some (.int l2), o3, o4] [.int s4, .int s3, .int s2, .int s1, .ref 26] (zk B im lm) = zeRun 78 108 [some (.ref 16), some (.int l1), some (.int l2), o3, o4] [.int 1, .int s4, .int s3, .int s2, .int s1, .ref 26] (zk B im lm) := ze_go (ok := true) rfl 2 rfl rfl
theorem d_78_108 {B : zeB} {im : Nat → Nat → Int32} {lm : Nat → Nat → Int64} (l1 : Int32) (l2 : Int32) (o3 : Option Value) (o4 : Option Value) (s1 : Int32) (s2 : Int32) (s3 : Int32) (s4 : Int32) (s5 : Int32)  : zeRun 78 108 [some (.ref 16), some (.int l1), some (.int l2), o3, o4] [.int s5, .int s4, .int s3, .int s2, .int s1, .ref 26] (zk B im lm) = zeBh 78 111 [some (.ref 16), some (.int l1), some (.int l2), o3, o4] [] (zeRun 71 0 [some (.ref 26), some (.int s1), some (.int s2), some (.int s3), some (.int s4), some (.int s5)] [] (zk B im lm)) := ze_call (ok := true) rfl 1 rfl rfl rfl
theorem d_78_111 {B : zeB} {im : Nat → Nat → Int32} {lm : Nat → Nat → Int64} (l1 : Int32) (l2 : Int32) (o3 : Option Value) (o4 : Option Value)  : zeRun 78 111 [some (.ref 16), some (.int l1), some (.int l2), o3, o4] [] (zk B im lm) = if l2 = 0 then zeRun 78 141 [some (.ref 16), some (.int l1), some (.int l2), o3, o4] [] (zk B (zeU2 im 19 4 ((im 19 4) ||| (1 <<< (l1 &&& 31)))) lm) else zeRun 78 133 [some (.ref 16), some (.int l1), some (.int l2), o3, o4] [] (zk B (zeU2 im 19 4 ((im 19 4) ||| (1 <<< (l1 &&& 31)))) lm) := ze_if (ok := true) rfl 12 rfl rfl
theorem d_78_141 {B : zeB} {im : Nat → Nat → Int32} {lm : Nat → Nat → Int64} (o0 : Option Value) (o1 : Option Value) (o2 : Option Value) (o3 : Option Value) (o4 : Option Value)  : zeRun 78 141 [o0, o1, o2, o3, o4] [] (zk B im lm) = some (none, (zk B im lm)) := ze_ret (ok := true) rfl 1 rfl rfl
theorem d_78_133 {B : zeB} {im : Nat → Nat → Int32} {lm : Nat → Nat → Int64} (o1 : Option Value) (o2 : Option Value) (o3 : Option Value) (o4 : Option Value)  : zeRun 78 133 [some (.ref 16), o1, o2, o3, o4] [] (zk B im lm) = some (none, (zk B (zeU2 im 17 0 0) lm)) := ze_ret (ok := true) rfl 5 rfl rfl
theorem d_78_56 {B : zeB} {im : Nat → Nat → Int32} {lm : Nat → Nat → Int64} (l1 : Int32) (l2 : Int32) (o3 : Option Value) (o4 : Option Value) (s1 : Int32) (s2 : Int32) (s3 : Int32) (s4 : Int32) (s5 : Int32)  : zeRun 78 56 [some (.ref 16), some (.int l1), some (.int l2), o3, o4] [.int s5, .int s4, .int s3, .int s2, .int s1, .ref 26] (zk B im lm) = zeBh 78 59 [some (.ref 16), some (.int l1), some (.int l2), o3, o4] [] (zeRun 71 0 [some (.ref 26), some (.int s1), some (.int s2), some (.int s3), some (.int s4), some (.int s5)] [] (zk B im lm)) := ze_call (ok := true) rfl 1 rfl rfl rfl
theorem d_78_59 {B : zeB} {im : Nat → Nat → Int32} {lm : Nat → Nat → Int64} (l1 : Int32) (l2 : Int32) (o3 : Option Value) (o4 : Option Value)  : zeRun 78 59 [some (.ref 16), some (.int l1), some (.int l2), o3, o4] [] (zk B im lm) = zeRun 78 111 [some (.ref 16), some (.int l1), some (.int l2), o3, o4] [] (zk B im lm) := ze_go (ok := true) rfl 1 rfl rfl
def J_78_111  (l1 : Int32) (l2 : Int32) (im : zI) (lm : zJ) : zR :=
    some (0, if l2 = 0 then (zeU2 im 19 4 ((im 19 4) ||| (1 <<< (l1 &&& 31)))) else (zeU2 (zeU2 im 19 4 ((im 19 4) ||| (1 <<< (l1 &&& 31)))) 17 0 0), lm)
theorem J_78_111_ok {B : zeB} (l1 : Int32) (l2 : Int32) (o3 : Option Value) (o4 : Option Value) (im : zI) (lm : zJ) : zL B 0 (J_78_111  l1 l2 im lm) (zeRun 78 111 [some (.ref 16), some (.int l1), some (.int l2), o3, o4] [] (zk B im lm)) := by
  unfold J_78_111
  refine zL_ifm (d_78_111 _ _ _ _) (fun h => ?_) (fun h => ?_)
  · repeat rw [if_pos h]
    exact zL_retv (d_78_141 _ _ _ _ _)
  · repeat rw [if_neg h]
    exact zL_retv (d_78_133 _ _ _ _)
def J_78_108  (l1 : Int32) (l2 : Int32) (s1 : Int32) (s2 : Int32) (s3 : Int32) (s4 : Int32) (s5 : Int32) (im : zI) (lm : zJ) : zR :=
    zBd (m_71 s1 s2 s3 s4 s5 im lm) fun _ im1 lm1 =>
    J_78_111   l1 l2 im1 lm1
theorem J_78_108_ok {B : zeB} (l1 : Int32) (l2 : Int32) (s1 : Int32) (s2 : Int32) (s3 : Int32) (s4 : Int32) (s5 : Int32) (o3 : Option Value) (o4 : Option Value) (im : zI) (lm : zJ) : zL B 0 (J_78_108  l1 l2 s1 s2 s3 s4 s5 im lm) (zeRun 78 108 [some (.ref 16), some (.int l1), some (.int l2), o3, o4] [.int s5, .int s4, .int s3, .int s2, .int s1, .ref 26] (zk B im lm)) := by
  unfold J_78_108
  refine zL_bdv (d_78_108 _ _ _ _ _ _ _ _ _) (m_71_ok _ _ _ _ _ _ _) fun _ im1 lm1 => ?_
  exact J_78_111_ok   _ _ _ _ _ _
def J_78_56  (l1 : Int32) (l2 : Int32) (s1 : Int32) (s2 : Int32) (s3 : Int32) (s4 : Int32) (s5 : Int32) (im : zI) (lm : zJ) : zR :=
    zBd (m_71 s1 s2 s3 s4 s5 im lm) fun _ im1 lm1 =>
    J_78_111   l1 l2 im1 lm1
theorem J_78_56_ok {B : zeB} (l1 : Int32) (l2 : Int32) (s1 : Int32) (s2 : Int32) (s3 : Int32) (s4 : Int32) (s5 : Int32) (o3 : Option Value) (o4 : Option Value) (im : zI) (lm : zJ) : zL B 0 (J_78_56  l1 l2 s1 s2 s3 s4 s5 im lm) (zeRun 78 56 [some (.ref 16), some (.int l1), some (.int l2), o3, o4] [.int s5, .int s4, .int s3, .int s2, .int s1, .ref 26] (zk B im lm)) := by
  unfold J_78_56
  refine zL_bdv (d_78_56 _ _ _ _ _ _ _ _ _) (m_71_ok _ _ _ _ _ _ _) fun _ im1 lm1 => ?_
  refine zL_eq (d_78_59 _ _ _ _) ?_
  exact J_78_111_ok   _ _ _ _ _ _
def m_78 (l1 : Int32) (l2 : Int32) (im : zI) (lm : zJ) : zR :=
    if (im 19 4) = 0 then
      J_78_56   l1 l2 l1 0 (im 19 0) ((100 * (((im 19 0) / 5) + 1)) : Int32) (if l2 = 0 then 0 else 1) im lm
    else
      J_78_108   l1 l2 l1 1 (im 19 0) ((((100 * (((im 19 0) / 5) + 1)) : Int32) * (im 18 2)) / 100) (if l2 = 0 then 0 else 1) im lm
theorem m_78_ok {B : zeB} (l1 : Int32) (l2 : Int32) (im : zI) (lm : zJ) : zL B 0 (m_78 l1 l2 im lm) (zeRun 78 0 [some (.ref 16), some (.int l1), some (.int l2), none, none] [] (zk B im lm)) := by
  unfold m_78
  refine zL_bdp (e := ((100 * (((im 19 0) / 5) + 1)) : Int32)) (d_78_0 _ _ _ _) (m_41_ok _ _ _) ?_
  refine zL_if (d_78_13 _ _ _ _ _) (fun h => ?_) (fun h => ?_)
  · skip
    refine zL_ifm (d_78_27 _ _ _ _) (fun h => ?_) (fun h => ?_)
    · repeat rw [if_pos h]
      refine zL_eq (d_78_55 _ _ _ _ _ _ _ _) ?_
      exact J_78_56_ok   _ _ _ _ _ _ _ _ _ _ _
    · repeat rw [if_neg h]
      refine zL_eq (d_78_51 _ _ _ _ _ _ _ _) ?_
      exact J_78_56_ok   _ _ _ _ _ _ _ _ _ _ _
  · skip
    refine zL_ifm (d_78_62 _ _ _ _) (fun h => ?_) (fun h => ?_)
    · repeat rw [if_pos h]
      refine zL_eq (d_78_107 _ _ _ _ _ _ _ _) ?_
      exact J_78_108_ok   _ _ _ _ _ _ _ _ _ _ _
    · repeat rw [if_neg h]
      refine zL_eq (d_78_103 _ _ _ _ _ _ _ _) ?_
      exact J_78_108_ok   _ _ _ _ _ _ _ _ _ _ _
