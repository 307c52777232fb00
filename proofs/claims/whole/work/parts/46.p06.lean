/-! pure: X8_isAhead, X8_queue, X8_buzzes, X8_buzz, X7_isQueuedAhead, X7_queuePlaceOf, X7_playerInQueue, X0_isEarlier, X0_turnOf, X0_nextToAnswer, X7_playerToAnswer, X2_isFull, X2_append -/
/-! X8_isAhead -/
theorem d_63_0 {B : zeB} {im : Nat → Nat → Int32} {lm : Nat → Nat → Int64} (l1 : Int32) (l2 : Int32) (l3 : Int32) (o4 : Option Value)  : zeRun 63 0 [some (.ref 170), some (.int l1), some (.int l2), some (.int l3), o4] [] (zk B im lm) = zeBh 63 5 [some (.ref 170), some (.int l1), some (.int l2), some (.int l3), o4] [] (zeRun 62 0 [some (.ref 170), some (.int l3), none, none] [] (zk B im lm)) := ze_call (ok := true) rfl 3 rfl rfl rfl
theorem d_63_5 {B : zeB} {im : Nat → Nat → Int32} {lm : Nat → Nat → Int64} (l1 : Int32) (l2 : Int32) (l3 : Int32) (o4 : Option Value) (s0 : Int32)  : zeRun 63 5 [some (.ref 170), some (.int l1), some (.int l2), some (.int l3), o4] [.int s0] (zk B im lm) = if l2 < s0 then zeRun 63 54 [some (.ref 170), some (.int l1), some (.int l2), some (.int l3), some (.int s0)] [] (zk B im lm) else zeRun 63 13 [some (.ref 170), some (.int l1), some (.int l2), some (.int l3), some (.int s0)] [] (zk B im lm) := ze_if (ok := true) rfl 4 rfl rfl
theorem d_63_54 {B : zeB} {im : Nat → Nat → Int32} {lm : Nat → Nat → Int64} (o0 : Option Value) (o1 : Option Value) (o2 : Option Value) (o3 : Option Value) (o4 : Option Value)  : zeRun 63 54 [o0, o1, o2, o3, o4] [] (zk B im lm) = some (some (.int 1), (zk B im lm)) := ze_ret (ok := true) rfl 3 rfl rfl
theorem d_63_13 {B : zeB} {im : Nat → Nat → Int32} {lm : Nat → Nat → Int64} (l1 : Int32) (l2 : Int32) (l3 : Int32) (l4 : Int32)  : zeRun 63 13 [some (.ref 170), some (.int l1), some (.int l2), some (.int l3), some (.int l4)] [] (zk B im lm) = if l2 = l4 then zeRun 63 19 [some (.ref 170), some (.int l1), some (.int l2), some (.int l3), some (.int l4)] [] (zk B im lm) else zeRun 63 58 [some (.ref 170), some (.int l1), some (.int l2), some (.int l3), some (.int l4)] [] (zk B im lm) := ze_if (ok := true) rfl 3 rfl rfl
theorem d_63_19 {B : zeB} {im : Nat → Nat → Int32} {lm : Nat → Nat → Int64} (l1 : Int32) (o2 : Option Value) (l3 : Int32) (o4 : Option Value) (c0 : zeInb l1 6 = true) (c1 : zeInb l3 6 = true) : zeRun 63 19 [some (.ref 170), some (.int l1), o2, some (.int l3), o4] [] (zk B im lm) = if (im 175 (Int32.toNatClampNeg l1)) < (im 175 (Int32.toNatClampNeg l3)) then zeRun 63 54 [some (.ref 170), some (.int l1), o2, some (.int l3), o4] [] (zk B im lm) else zeRun 63 34 [some (.ref 170), some (.int l1), o2, some (.int l3), o4] [] (zk B im lm) := ze_if (ok := (zeInb l3 6 && (zeInb l1 6 && true))) rfl 9 rfl (zeA2 c1 (zeA2 c0 rfl))
theorem d_63_34 {B : zeB} {im : Nat → Nat → Int32} {lm : Nat → Nat → Int64} (l1 : Int32) (o2 : Option Value) (l3 : Int32) (o4 : Option Value) (c0 : zeInb l1 6 = true) (c1 : zeInb l3 6 = true) : zeRun 63 34 [some (.ref 170), some (.int l1), o2, some (.int l3), o4] [] (zk B im lm) = if (im 175 (Int32.toNatClampNeg l1)) = (im 175 (Int32.toNatClampNeg l3)) then zeRun 63 49 [some (.ref 170), some (.int l1), o2, some (.int l3), o4] [] (zk B im lm) else zeRun 63 58 [some (.ref 170), some (.int l1), o2, some (.int l3), o4] [] (zk B im lm) := ze_if (ok := (zeInb l3 6 && (zeInb l1 6 && true))) rfl 9 rfl (zeA2 c1 (zeA2 c0 rfl))
theorem d_63_49 {B : zeB} {im : Nat → Nat → Int32} {lm : Nat → Nat → Int64} (o0 : Option Value) (l1 : Int32) (o2 : Option Value) (l3 : Int32) (o4 : Option Value)  : zeRun 63 49 [o0, some (.int l1), o2, some (.int l3), o4] [] (zk B im lm) = if l3 ≤ l1 then zeRun 63 58 [o0, some (.int l1), o2, some (.int l3), o4] [] (zk B im lm) else zeRun 63 54 [o0, some (.int l1), o2, some (.int l3), o4] [] (zk B im lm) := ze_if (ok := true) rfl 3 rfl rfl
theorem d_63_58 {B : zeB} {im : Nat → Nat → Int32} {lm : Nat → Nat → Int64} (o0 : Option Value) (o1 : Option Value) (o2 : Option Value) (o3 : Option Value) (o4 : Option Value)  : zeRun 63 58 [o0, o1, o2, o3, o4] [] (zk B im lm) = some (some (.int 0), (zk B im lm)) := ze_ret (ok := true) rfl 2 rfl rfl
def m_63 (l1 : Int32) (l2 : Int32) (l3 : Int32) (im : zI) (lm : zJ) : zR :=
    zBd (m_62 l3 im lm) fun v1 im1 lm1 =>
    zCk (if l2 < v1 then true else if l2 = v1 then zeInb l1 6 else true) <|
    zCk (if l2 < v1 then true else if l2 = v1 then zeInb l3 6 else true) <|
    some (if l2 < v1 then 1 else if l2 = v1 then if (im1 175 (Int32.toNatClampNeg l1)) < (im1 175 (Int32.toNatClampNeg l3)) then 1 else if (im1 175 (Int32.toNatClampNeg l1)) = (im1 175 (Int32.toNatClampNeg l3)) then if l3 ≤ l1 then 0 else 1 else 0 else 0, im1, lm1)
theorem m_63_ok {B : zeB} (l1 : Int32) (l2 : Int32) (l3 : Int32) (im : zI) (lm : zJ) : zL B 1 (m_63 l1 l2 l3 im lm) (zeRun 63 0 [some (.ref 170), some (.int l1), some (.int l2), some (.int l3), none] [] (zk B im lm)) := by
  unfold m_63
  refine zL_bd (d_63_0 _ _ _ _) (m_62_ok _ _ _) fun v1 im1 lm1 => ?_
  refine zL_ifm (d_63_5 _ _ _ _ _) (fun h => ?_) (fun h => ?_)
  · repeat rw [if_pos h]
    refine zL_ckt ?_
    refine zL_ckt ?_
    exact zL_ret (d_63_54 _ _ _ _ _)
  · repeat rw [if_neg h]
    refine zL_ifm (d_63_13 _ _ _ _) (fun h => ?_) (fun h => ?_)
    · repeat rw [if_pos h]
      refine zL_ck fun c1 => ?_
      refine zL_ck fun c2 => ?_
      refine zL_ifm (d_63_19 _ _ _ _ c1 c2) (fun h => ?_) (fun h => ?_)
      · repeat rw [if_pos h]
        exact zL_ret (d_63_54 _ _ _ _ _)
      · repeat rw [if_neg h]
        refine zL_ifm (d_63_34 _ _ _ _ c1 c2) (fun h => ?_) (fun h => ?_)
        · repeat rw [if_pos h]
          refine zL_ifm (d_63_49 _ _ _ _ _) (fun h => ?_) (fun h => ?_)
          · repeat rw [if_pos h]
            exact zL_ret (d_63_58 _ _ _ _ _)
          · repeat rw [if_neg h]
            exact zL_ret (d_63_54 _ _ _ _ _)
        · repeat rw [if_neg h]
          exact zL_ret (d_63_58 _ _ _ _ _)
    · repeat rw [if_neg h]
      refine zL_ckt ?_
      refine zL_ckt ?_
      exact zL_ret (d_63_58 _ _ _ _ _)
/-! X8_queue -/
theorem d_64_0 {B : zeB} {im : Nat → Nat → Int32} {lm : Nat → Nat → Int64} (o1 : Option Value) (o2 : Option Value) (o3 : Option Value) (o4 : Option Value)  : zeRun 64 0 [some (.ref 170), o1, o2, o3, o4] [] (zk B im lm) = zeRun 64 4 [some (.ref 170), some (.int 0), some (.int 0), o3, o4] [] (zk B im lm) := ze_go (ok := true) rfl 4 rfl rfl
theorem d_64_4 {B : zeB} {im : Nat → Nat → Int32} {lm : Nat → Nat → Int64} (l1 : Int32) (l2 : Int32) (o3 : Option Value) (o4 : Option Value)  : zeRun 64 4 [some (.ref 170), some (.int l1), some (.int l2), o3, o4] [] (zk B im lm) = if (im 171 1) ≤ l2 then zeRun 64 103 [some (.ref 170), some (.int l1), some (.int l2), o3, o4] [] (zk B im lm) else zeRun 64 14 [some (.ref 170), some (.int l1), some (.int l2), o3, o4] [] (zk B im lm) := ze_if (ok := true) rfl 6 rfl rfl
theorem d_64_103 {B : zeB} {im : Nat → Nat → Int32} {lm : Nat → Nat → Int64} (o0 : Option Value) (l1 : Int32) (o2 : Option Value) (o3 : Option Value) (o4 : Option Value)  : zeRun 64 103 [o0, some (.int l1), o2, o3, o4] [] (zk B im lm) = some (some (.int l1), (zk B im lm)) := ze_ret (ok := true) rfl 2 rfl rfl
theorem d_64_14 {B : zeB} {im : Nat → Nat → Int32} {lm : Nat → Nat → Int64} (l1 : Int32) (l2 : Int32) (o3 : Option Value) (o4 : Option Value)  : zeRun 64 14 [some (.ref 170), some (.int l1), some (.int l2), o3, o4] [] (zk B im lm) = zeBh 64 19 [some (.ref 170), some (.int l1), some (.int l2), o3, o4] [] (zeRun 62 0 [some (.ref 170), some (.int l2), none, none] [] (zk B im lm)) := ze_call (ok := true) rfl 3 rfl rfl rfl
theorem d_64_19 {B : zeB} {im : Nat → Nat → Int32} {lm : Nat → Nat → Int64} (l1 : Int32) (l2 : Int32) (o3 : Option Value) (o4 : Option Value) (s0 : Int32)  : zeRun 64 19 [some (.ref 170), some (.int l1), some (.int l2), o3, o4] [.int s0] (zk B im lm) = if s0 < 0 then zeRun 64 97 [some (.ref 170), some (.int l1), some (.int l2), some (.int s0), o4] [] (zk B im lm) else zeRun 64 24 [some (.ref 170), some (.int l1), some (.int l2), some (.int s0), o4] [] (zk B im lm) := ze_if (ok := true) rfl 3 rfl rfl
theorem d_64_97 {B : zeB} {im : Nat → Nat → Int32} {lm : Nat → Nat → Int64} (l1 : Int32) (l2 : Int32) (o3 : Option Value) (o4 : Option Value)  : zeRun 64 97 [some (.ref 170), some (.int l1), some (.int l2), o3, o4] [] (zk B im lm) = zeRun 64 4 [some (.ref 170), some (.int l1), some (.int (l2 + 1)), o3, o4] [] (zk B im lm) := ze_go (ok := true) rfl 2 rfl rfl
theorem d_64_24 {B : zeB} {im : Nat → Nat → Int32} {lm : Nat → Nat → Int64} (l1 : Int32) (l2 : Int32) (l3 : Int32) (o4 : Option Value)  : zeRun 64 24 [some (.ref 170), some (.int l1), some (.int l2), some (.int l3), o4] [] (zk B im lm) = if (((im 171 14) >>> (l2 &&& 31)) &&& 1) = 0 then zeRun 64 38 [some (.ref 170), some (.int l1), some (.int l2), some (.int l3), o4] [] (zk B im lm) else zeRun 64 97 [some (.ref 170), some (.int l1), some (.int l2), some (.int l3), o4] [] (zk B im lm) := ze_if (ok := true) rfl 9 rfl rfl
theorem d_64_38 {B : zeB} {im : Nat → Nat → Int32} {lm : Nat → Nat → Int64} (l1 : Int32) (l2 : Int32) (l3 : Int32) (o4 : Option Value)  : zeRun 64 38 [some (.ref 170), some (.int l1), some (.int l2), some (.int l3), o4] [] (zk B im lm) = zeRun 64 41 [some (.ref 170), some (.int l1), some (.int l2), some (.int l3), some (.int l1)] [] (zk B im lm) := ze_go (ok := true) rfl 2 rfl rfl
theorem d_64_41 {B : zeB} {im : Nat → Nat → Int32} {lm : Nat → Nat → Int64} (l1 : Int32) (l2 : Int32) (l3 : Int32) (l4 : Int32)  : zeRun 64 41 [some (.ref 170), some (.int l1), some (.int l2), some (.int l3), some (.int l4)] [] (zk B im lm) = if l4 ≤ 0 then zeRun 64 86 [some (.ref 170), some (.int l1), some (.int l2), some (.int l3), some (.int l4)] [] (zk B im lm) else zeRun 64 46 [some (.ref 170), some (.int l1), some (.int l2), some (.int l3), some (.int l4)] [] (zk B im lm) := ze_if (ok := true) rfl 2 rfl rfl
theorem d_64_46 {B : zeB} {im : Nat → Nat → Int32} {lm : Nat → Nat → Int64} (l1 : Int32) (l2 : Int32) (l3 : Int32) (l4 : Int32) (c0 : zeInb (l4 - 1) 6 = true) : zeRun 64 46 [some (.ref 170), some (.int l1), some (.int l2), some (.int l3), some (.int l4)] [] (zk B im lm) = zeBh 64 61 [some (.ref 170), some (.int l1), some (.int l2), some (.int l3), some (.int l4)] [] (zeRun 63 0 [some (.ref 170), some (.int l2), some (.int l3), some (.int (im 182 (Int32.toNatClampNeg (l4 - 1)))), none] [] (zk B im lm)) := ze_call (ok := (zeInb (l4 - 1) 6 && true)) rfl 10 rfl rfl (zeA2 c0 rfl)
theorem d_64_61 {B : zeB} {im : Nat → Nat → Int32} {lm : Nat → Nat → Int64} (l1 : Int32) (l2 : Int32) (l3 : Int32) (l4 : Int32) (s0 : Int32)  : zeRun 64 61 [some (.ref 170), some (.int l1), some (.int l2), some (.int l3), some (.int l4)] [.int s0] (zk B im lm) = if s0 = 0 then zeRun 64 86 [some (.ref 170), some (.int l1), some (.int l2), some (.int l3), some (.int l4)] [] (zk B im lm) else zeRun 64 64 [some (.ref 170), some (.int l1), some (.int l2), some (.int l3), some (.int l4)] [] (zk B im lm) := ze_if (ok := true) rfl 1 rfl rfl
theorem d_64_64 {B : zeB} {im : Nat → Nat → Int32} {lm : Nat → Nat → Int64} (l1 : Int32) (l2 : Int32) (l3 : Int32) (l4 : Int32) (c0 : zeInb (l4 - 1) 6 = true) (c1 : zeInb l4 6 = true) : zeRun 64 64 [some (.ref 170), some (.int l1), some (.int l2), some (.int l3), some (.int l4)] [] (zk B im lm) = zeRun 64 41 [some (.ref 170), some (.int l1), some (.int l2), some (.int l3), some (.int (l4 + (-1)))] [] (zk B (zeU2 im 182 (Int32.toNatClampNeg l4) (im 182 (Int32.toNatClampNeg (l4 - 1)))) lm) := ze_go (ok := (zeInb l4 6 && (zeInb (l4 - 1) 6 && true))) rfl 12 rfl (zeA2 c1 (zeA2 c0 rfl))
theorem d_64_86 {B : zeB} {im : Nat → Nat → Int32} {lm : Nat → Nat → Int64} (l1 : Int32) (l2 : Int32) (o3 : Option Value) (l4 : Int32) (c0 : zeInb l4 6 = true) : zeRun 64 86 [some (.ref 170), some (.int l1), some (.int l2), o3, some (.int l4)] [] (zk B im lm) = zeRun 64 4 [some (.ref 170), some (.int (l1 + 1)), some (.int (l2 + 1)), o3, some (.int l4)] [] (zk B (zeU2 im 182 (Int32.toNatClampNeg l4) l2) lm) := ze_go (ok := (zeInb l4 6 && true)) rfl 8 rfl (zeA2 c0 rfl)
def J_64_86 (K4 : Int32 → Int32 → zI → zJ → zR) (l1 : Int32) (l2 : Int32) (l4 : Int32) (im : zI) (lm : zJ) : zR :=
    zCk (zeInb l4 6) <|
    K4 (l1 + 1) (l2 + 1) (zeU2 im 182 (Int32.toNatClampNeg l4) l2) lm
theorem J_64_86_ok {B : zeB} (K4 : Int32 → Int32 → zI → zJ → zR) (hK4 : ∀ (l1 : Int32) (l2 : Int32) (o3 : Option Value) (o4 : Option Value) (im : zI) (lm : zJ), zL B 1 (K4 l1 l2 im lm) (zeRun 64 4 [some (.ref 170), some (.int l1), some (.int l2), o3, o4] [] (zk B im lm))) (l1 : Int32) (l2 : Int32) (l4 : Int32) (o3 : Option Value) (im : zI) (lm : zJ) : zL B 1 (J_64_86 K4 l1 l2 l4 im lm) (zeRun 64 86 [some (.ref 170), some (.int l1), some (.int l2), o3, some (.int l4)] [] (zk B im lm)) := by
  unfold J_64_86
  refine zL_ck fun c1 => ?_
  refine zL_eq (d_64_86 _ _ _ _ c1) ?_
  exact hK4 _ _ _ _ _ _
def F_64_41 (K4 : Int32 → Int32 → zI → zJ → zR) : Nat → Int32 → Int32 → Int32 → Int32 → zI → zJ → zR
  | 0, _, _, _, _, _, _ => none
  | n + 1, l1, l2, l3, l4, im, lm =>
    if l4 ≤ 0 then
      J_64_86 K4  l1 l2 l4 im lm
    else
      zCk (zeInb (l4 - 1) 6) <|
      zBd (m_63 l2 l3 (im 182 (Int32.toNatClampNeg (l4 - 1))) im lm) fun v1 im1 lm1 =>
      if v1 = 0 then
        J_64_86 K4  l1 l2 l4 im1 lm1
      else
        zCk (zeInb l4 6) <|
        F_64_41 K4 n l1 l2 l3 (l4 + (-1)) (zeU2 im1 182 (Int32.toNatClampNeg l4) (im1 182 (Int32.toNatClampNeg (l4 - 1)))) lm1
theorem F_64_41_ok {B : zeB} (K4 : Int32 → Int32 → zI → zJ → zR) (hK4 : ∀ (l1 : Int32) (l2 : Int32) (o3 : Option Value) (o4 : Option Value) (im : zI) (lm : zJ), zL B 1 (K4 l1 l2 im lm) (zeRun 64 4 [some (.ref 170), some (.int l1), some (.int l2), o3, o4] [] (zk B im lm))) : ∀ (n : Nat) (l1 : Int32) (l2 : Int32) (l3 : Int32) (l4 : Int32)  (im : zI) (lm : zJ), zL B 1 (F_64_41 K4 n l1 l2 l3 l4 im lm) (zeRun 64 41 [some (.ref 170), some (.int l1), some (.int l2), some (.int l3), some (.int l4)] [] (zk B im lm)) := by
  intro n
  induction n with
  | zero => intros; exact zL_none
  | succ n ih =>
    intro l1 l2 l3 l4 im lm
    unfold F_64_41
    refine zL_if (d_64_41 _ _ _ _) (fun h => ?_) (fun h => ?_)
    · skip
      exact J_64_86_ok _ hK4  _ _ _ _ _ _
    · skip
      refine zL_ck fun c1 => ?_
      refine zL_bd (d_64_46 _ _ _ _ c1) (m_63_ok _ _ _ _ _) fun v1 im1 lm1 => ?_
      refine zL_if (d_64_61 _ _ _ _ _) (fun h => ?_) (fun h => ?_)
      · skip
        exact J_64_86_ok _ hK4  _ _ _ _ _ _
      · skip
        refine zL_ck fun c2 => ?_
        refine zL_eq (d_64_64 _ _ _ _ c1 c2) ?_
        exact ih _ _ _ _ _ _
def F_64_4  : Nat → Int32 → Int32 → zI → zJ → zR
  | 0, _, _, _, _ => none
  | n + 1, l1, l2, im, lm =>
    if (im 171 1) ≤ l2 then
      some (l1, im, lm)
    else
      zBd (m_62 l2 im lm) fun v1 im1 lm1 =>
      if v1 < 0 then
        F_64_4  n l1 (l2 + 1) im1 lm1
      else
        if (((im1 171 14) >>> (l2 &&& 31)) &&& 1) = 0 then
          F_64_41 (F_64_4  n) 2000 l1 l2 v1 l1 im1 lm1
        else
          F_64_4  n l1 (l2 + 1) im1 lm1
theorem F_64_4_ok {B : zeB} : ∀ (n : Nat) (l1 : Int32) (l2 : Int32) (o3 : Option Value) (o4 : Option Value) (im : zI) (lm : zJ), zL B 1 (F_64_4  n l1 l2 im lm) (zeRun 64 4 [some (.ref 170), some (.int l1), some (.int l2), o3, o4] [] (zk B im lm)) := by
  intro n
  induction n with
  | zero => intros; exact zL_none
  | succ n ih =>
    intro l1 l2 o3 o4 im lm
    unfold F_64_4
    refine zL_if (d_64_4 _ _ _ _) (fun h => ?_) (fun h => ?_)
    · skip
      exact zL_ret (d_64_103 _ _ _ _ _)
    · skip
      refine zL_bd (d_64_14 _ _ _ _) (m_62_ok _ _ _) fun v1 im1 lm1 => ?_
      refine zL_if (d_64_19 _ _ _ _ _) (fun h => ?_) (fun h => ?_)
      · skip
        refine zL_eq (d_64_97 _ _ _ _) ?_
        exact ih _ _ _ _ _ _
      · skip
        refine zL_if (d_64_24 _ _ _ _) (fun h => ?_) (fun h => ?_)
        · skip
          refine zL_eq (d_64_38 _ _ _ _) ?_
          exact F_64_41_ok _ ih _ _ _ _ _ _ _
        · skip
          refine zL_eq (d_64_97 _ _ _ _) ?_
          exact ih _ _ _ _ _ _
def m_64  (im : zI) (lm : zJ) : zR :=
    F_64_4  2000 0 0 im lm
theorem m_64_ok {B : zeB}  (im : zI) (lm : zJ) : zL B 1 (m_64  im lm) (zeRun 64 0 [some (.ref 170), none, none, none, none] [] (zk B im lm)) := by
  unfold m_64
  refine zL_eq (d_64_0 _ _ _ _) ?_
  exact F_64_4_ok  _ _ _ _ _ _ _
/-! X8_buzzes -/
theorem d_65_0 {B : zeB} {im : Nat → Nat → Int32} {lm : Nat → Nat → Int64} (l1 : Int32) (l2 : Int32) (c0 : zeInb ((30 + (4 * l1)) + (l2 / 25)) 360 = true) (c1 : zeInb ((30 + (4 * l1)) + (l2 / 25)) 360 = true) : zeRun 65 0 [some (.ref 170), some (.int l1), some (.int l2)] [] (zk B im lm) = zeBh 65 29 [some (.ref 170), some (.int l1), some (.int l2)] [] (zeRun 47 0 [some (.ref 170), none, none, none, none, none, none] [] (zk B (zeU2 im 171 (Int32.toNatClampNeg ((30 + (4 * l1)) + (l2 / 25))) ((im 171 (Int32.toNatClampNeg ((30 + (4 * l1)) + (l2 / 25)))) ||| (1 <<< ((zfirem l2 25) &&& 31)))) lm)) := ze_call (ok := (zeInb ((30 + (4 * l1)) + (l2 / 25)) 360 && (zeInb ((30 + (4 * l1)) + (l2 / 25)) 360 && true))) rfl 22 rfl rfl (zeA2 c1 (zeA2 c0 rfl))
theorem d_65_29 {B : zeB} {im : Nat → Nat → Int32} {lm : Nat → Nat → Int64} (o1 : Option Value) (o2 : Option Value)  : zeRun 65 29 [some (.ref 170), o1, o2] [] (zk B im lm) = zeBh 65 33 [some (.ref 170), o1, o2] [] (zeRun 64 0 [some (.ref 170), none, none, none, none] [] (zk B im lm)) := ze_call (ok := true) rfl 2 rfl rfl rfl
theorem d_65_33 {B : zeB} {im : Nat → Nat → Int32} {lm : Nat → Nat → Int64} (o0 : Option Value) (o1 : Option Value) (o2 : Option Value) (s0 : Int32)  : zeRun 65 33 [o0, o1, o2] [.int s0] (zk B im lm) = some (some (.int s0), (zk B im lm)) := ze_ret (ok := true) rfl 1 rfl rfl
def m_65 (l1 : Int32) (l2 : Int32) (im : zI) (lm : zJ) : zR :=
    zCk (zeInb ((30 + (4 * l1)) + (l2 / 25)) 360) <|
    zBd (m_47  (zeU2 im 171 (Int32.toNatClampNeg ((30 + (4 * l1)) + (l2 / 25))) ((im 171 (Int32.toNatClampNeg ((30 + (4 * l1)) + (l2 / 25)))) ||| (1 <<< ((zfirem l2 25) &&& 31)))) lm) fun _ im1 lm1 =>
    zBd (m_64  im1 lm1) fun v2 im2 lm2 =>
    some (v2, im2, lm2)
theorem m_65_ok {B : zeB} (l1 : Int32) (l2 : Int32) (im : zI) (lm : zJ) : zL B 1 (m_65 l1 l2 im lm) (zeRun 65 0 [some (.ref 170), some (.int l1), some (.int l2)] [] (zk B im lm)) := by
  unfold m_65
  refine zL_ck fun c1 => ?_
  refine zL_bdv (d_65_0 _ _ c1 c1) (m_47_ok _ _) fun _ im1 lm1 => ?_
  refine zL_bd (d_65_29 _ _) (m_64_ok _ _) fun v2 im2 lm2 => ?_
  exact zL_ret (d_65_33 _ _ _ _)
/-! X8_buzz -/
theorem d_66_0 {B : zeB} {im : Nat → Nat → Int32} {lm : Nat → Nat → Int64} (l1 : Int32) (l2 : Int32) (o3 : Option Value)  : zeRun 66 0 [some (.ref 170), some (.int l1), some (.int l2), o3] [] (zk B im lm) = zeBh 66 6 [some (.ref 170), some (.int l1), some (.int l2), o3] [] (zeRun 61 0 [some (.ref 170), some (.int l1), some (.int l2)] [] (zk B im lm)) := ze_call (ok := true) rfl 4 rfl rfl rfl
theorem d_66_6 {B : zeB} {im : Nat → Nat → Int32} {lm : Nat → Nat → Int64} (l1 : Int32) (l2 : Int32) (o3 : Option Value) (s0 : Int32)  : zeRun 66 6 [some (.ref 170), some (.int l1), some (.int l2), o3] [.int s0] (zk B im lm) = if 0 ≤ s0 then zeRun 66 13 [some (.ref 170), some (.int l1), some (.int l2), some (.int s0)] [] (zk B im lm) else zeRun 66 11 [some (.ref 170), some (.int l1), some (.int l2), some (.int s0)] [] (zk B im lm) := ze_if (ok := true) rfl 3 rfl rfl
theorem d_66_13 {B : zeB} {im : Nat → Nat → Int32} {lm : Nat → Nat → Int64} (l1 : Int32) (l2 : Int32) (o3 : Option Value)  : zeRun 66 13 [some (.ref 170), some (.int l1), some (.int l2), o3] [] (zk B im lm) = zeBh 66 17 [some (.ref 170), some (.int l1), some (.int l2), o3] [] (zeRun 25 0 [some (.ref 170), none] [] (zk B im lm)) := ze_call (ok := true) rfl 2 rfl rfl rfl
theorem d_66_17 {B : zeB} {im : Nat → Nat → Int32} {lm : Nat → Nat → Int64} (l1 : Int32) (l2 : Int32) (o3 : Option Value)  : zeRun 66 17 [some (.ref 170), some (.int l1), some (.int l2), o3] [] (zk B im lm) = zeBh 66 23 [some (.ref 170), some (.int l1), some (.int l2), o3] [] (zeRun 65 0 [some (.ref 170), some (.int l1), some (.int l2)] [] (zk B im lm)) := ze_call (ok := true) rfl 4 rfl rfl rfl
theorem d_66_23 {B : zeB} {im : Nat → Nat → Int32} {lm : Nat → Nat → Int64} (o0 : Option Value) (o1 : Option Value) (o2 : Option Value) (o3 : Option Value) (s0 : Int32)  : zeRun 66 23 [o0, o1, o2, o3] [.int s0] (zk B im lm) = some (some (.int s0), (zk B im lm)) := ze_ret (ok := true) rfl 1 rfl rfl
theorem d_66_11 {B : zeB} {im : Nat → Nat → Int32} {lm : Nat → Nat → Int64} (o0 : Option Value) (o1 : Option Value) (o2 : Option Value) (l3 : Int32)  : zeRun 66 11 [o0, o1, o2, some (.int l3)] [] (zk B im lm) = some (some (.int l3), (zk B im lm)) := ze_ret (ok := true) rfl 2 rfl rfl
def m_66 (l1 : Int32) (l2 : Int32) (im : zI) (lm : zJ) : zR :=
    zBd (m_61 l1 l2 im lm) fun v1 im1 lm1 =>
    if 0 ≤ v1 then
      zBd (m_25  im1 lm1) fun _ im2 lm2 =>
      zBd (m_65 l1 l2 im2 lm2) fun v3 im3 lm3 =>
      some (v3, im3, lm3)
    else
      some (v1, im1, lm1)
theorem m_66_ok {B : zeB} (l1 : Int32) (l2 : Int32) (im : zI) (lm : zJ) : zL B 1 (m_66 l1 l2 im lm) (zeRun 66 0 [some (.ref 170), some (.int l1), some (.int l2), none] [] (zk B im lm)) := by
  unfold m_66
  refine zL_bd (d_66_0 _ _ _) (m_61_ok _ _ _ _) fun v1 im1 lm1 => ?_
  refine zL_if (d_66_6 _ _ _ _) (fun h => ?_) (fun h => ?_)
  · skip
    refine zL_bdv (d_66_13 _ _ _) (m_25_ok _ _) fun _ im2 lm2 => ?_
    refine zL_bd (d_66_17 _ _ _) (m_65_ok _ _ _ _) fun v3 im3 lm3 => ?_
    exact zL_ret (d_66_23 _ _ _ _ _)
  · skip
    exact zL_ret (d_66_11 _ _ _ _)
/-! X7_isQueuedAhead -/
theorem d_67_0 {B : zeB} {im : Nat → Nat → Int32} {lm : Nat → Nat → Int64} (l1 : Int32) (l2 : Int32) (o3 : Option Value) (o4 : Option Value) (c0 : zeInb l1 6 = true) (c1 : zeInb l2 6 = true) : zeRun 67 0 [some (.ref 16), some (.int l1), some (.int l2), o3, o4] [] (zk B im lm) = if (im 20 (Int32.toNatClampNeg l1)) = (im 20 (Int32.toNatClampNeg l2)) then zeRun 67 45 [some (.ref 16), some (.int l1), some (.int l2), some (.int (im 20 (Int32.toNatClampNeg l1))), some (.int (im 20 (Int32.toNatClampNeg l2)))] [] (zk B im lm) else zeRun 67 33 [some (.ref 16), some (.int l1), some (.int l2), some (.int (im 20 (Int32.toNatClampNeg l1))), some (.int (im 20 (Int32.toNatClampNeg l2)))] [] (zk B im lm) := ze_if (ok := (zeInb l2 6 && (zeInb l1 6 && true))) rfl 17 rfl (zeA2 c1 (zeA2 c0 rfl))
theorem d_67_45 {B : zeB} {im : Nat → Nat → Int32} {lm : Nat → Nat → Int64} (l1 : Int32) (l2 : Int32) (o3 : Option Value) (o4 : Option Value) (c0 : zeInb l1 6 = true) (c1 : zeInb l2 6 = true) : zeRun 67 45 [some (.ref 16), some (.int l1), some (.int l2), o3, o4] [] (zk B im lm) = if (im 33 (Int32.toNatClampNeg l1)) = (im 33 (Int32.toNatClampNeg l2)) then zeRun 67 93 [some (.ref 16), some (.int l1), some (.int l2), o3, o4] [] (zk B im lm) else zeRun 67 66 [some (.ref 16), some (.int l1), some (.int l2), o3, o4] [] (zk B im lm) := ze_if (ok := (zeInb l2 6 && (zeInb l1 6 && true))) rfl 11 rfl (zeA2 c1 (zeA2 c0 rfl))
theorem d_67_93 {B : zeB} {im : Nat → Nat → Int32} {lm : Nat → Nat → Int64} (o0 : Option Value) (l1 : Int32) (l2 : Int32) (o3 : Option Value) (o4 : Option Value)  : zeRun 67 93 [o0, some (.int l1), some (.int l2), o3, o4] [] (zk B im lm) = if l2 ≤ l1 then zeRun 67 102 [o0, some (.int l1), some (.int l2), o3, o4] [] (zk B im lm) else zeRun 67 98 [o0, some (.int l1), some (.int l2), o3, o4] [] (zk B im lm) := ze_if (ok := true) rfl 3 rfl rfl
theorem d_67_102 {B : zeB} {im : Nat → Nat → Int32} {lm : Nat → Nat → Int64} (o0 : Option Value) (o1 : Option Value) (o2 : Option Value) (o3 : Option Value) (o4 : Option Value)  : zeRun 67 102 [o0, o1, o2, o3, o4] [] (zk B im lm) = some (some (.int 0), (zk B im lm)) := ze_ret (ok := true) rfl 2 rfl rfl
theorem d_67_98 {B : zeB} {im : Nat → Nat → Int32} {lm : Nat → Nat → Int64} (o0 : Option Value) (o1 : Option Value) (o2 : Option Value) (o3 : Option Value) (o4 : Option Value)  : zeRun 67 98 [o0, o1, o2, o3, o4] [] (zk B im lm) = some (some (.int 1), (zk B im lm)) := ze_ret (ok := true) rfl 3 rfl rfl
theorem d_67_66 {B : zeB} {im : Nat → Nat → Int32} {lm : Nat → Nat → Int64} (l1 : Int32) (l2 : Int32) (o3 : Option Value) (o4 : Option Value) (c0 : zeInb l1 6 = true) (c1 : zeInb l2 6 = true) : zeRun 67 66 [some (.ref 16), some (.int l1), some (.int l2), o3, o4] [] (zk B im lm) = if (im 33 (Int32.toNatClampNeg l2)) ≤ (im 33 (Int32.toNatClampNeg l1)) then zeRun 67 91 [some (.ref 16), some (.int l1), some (.int l2), o3, o4] [] (zk B im lm) else zeRun 67 87 [some (.ref 16), some (.int l1), some (.int l2), o3, o4] [] (zk B im lm) := ze_if (ok := (zeInb l2 6 && (zeInb l1 6 && true))) rfl 11 rfl (zeA2 c1 (zeA2 c0 rfl))
theorem d_67_91 {B : zeB} {im : Nat → Nat → Int32} {lm : Nat → Nat → Int64} (o0 : Option Value) (o1 : Option Value) (o2 : Option Value) (o3 : Option Value) (o4 : Option Value)  : zeRun 67 91 [o0, o1, o2, o3, o4] [] (zk B im lm) = some (some (.int 0), (zk B im lm)) := ze_ret (ok := true) rfl 2 rfl rfl
theorem d_67_87 {B : zeB} {im : Nat → Nat → Int32} {lm : Nat → Nat → Int64} (o0 : Option Value) (o1 : Option Value) (o2 : Option Value) (o3 : Option Value) (o4 : Option Value)  : zeRun 67 87 [o0, o1, o2, o3, o4] [] (zk B im lm) = some (some (.int 1), (zk B im lm)) := ze_ret (ok := true) rfl 3 rfl rfl
theorem d_67_33 {B : zeB} {im : Nat → Nat → Int32} {lm : Nat → Nat → Int64} (o0 : Option Value) (o1 : Option Value) (o2 : Option Value) (l3 : Int32) (l4 : Int32)  : zeRun 67 33 [o0, o1, o2, some (.int l3), some (.int l4)] [] (zk B im lm) = if l4 ≤ l3 then zeRun 67 43 [o0, o1, o2, some (.int l3), some (.int l4)] [] (zk B im lm) else zeRun 67 39 [o0, o1, o2, some (.int l3), some (.int l4)] [] (zk B im lm) := ze_if (ok := true) rfl 3 rfl rfl
theorem d_67_43 {B : zeB} {im : Nat → Nat → Int32} {lm : Nat → Nat → Int64} (o0 : Option Value) (o1 : Option Value) (o2 : Option Value) (o3 : Option Value) (o4 : Option Value)  : zeRun 67 43 [o0, o1, o2, o3, o4] [] (zk B im lm) = some (some (.int 0), (zk B im lm)) := ze_ret (ok := true) rfl 2 rfl rfl
theorem d_67_39 {B : zeB} {im : Nat → Nat → Int32} {lm : Nat → Nat → Int64} (o0 : Option Value) (o1 : Option Value) (o2 : Option Value) (o3 : Option Value) (o4 : Option Value)  : zeRun 67 39 [o0, o1, o2, o3, o4] [] (zk B im lm) = some (some (.int 1), (zk B im lm)) := ze_ret (ok := true) rfl 3 rfl rfl
def m_67 (l1 : Int32) (l2 : Int32) (im : zI) (lm : zJ) : zR :=
    zCk (zeInb l1 6) <|
    zCk (zeInb l2 6) <|
    some (if (im 20 (Int32.toNatClampNeg l1)) = (im 20 (Int32.toNatClampNeg l2)) then if (im 33 (Int32.toNatClampNeg l1)) = (im 33 (Int32.toNatClampNeg l2)) then if l2 ≤ l1 then 0 else 1 else if (im 33 (Int32.toNatClampNeg l2)) ≤ (im 33 (Int32.toNatClampNeg l1)) then 0 else 1 else if (im 20 (Int32.toNatClampNeg l2)) ≤ (im 20 (Int32.toNatClampNeg l1)) then 0 else 1, im, lm)
theorem m_67_ok {B : zeB} (l1 : Int32) (l2 : Int32) (im : zI) (lm : zJ) : zL B 1 (m_67 l1 l2 im lm) (zeRun 67 0 [some (.ref 16), some (.int l1), some (.int l2), none, none] [] (zk B im lm)) := by
  unfold m_67
  refine zL_ck fun c1 => ?_
  refine zL_ck fun c2 => ?_
  refine zL_ifm (d_67_0 _ _ _ _ c1 c2) (fun h => ?_) (fun h => ?_)
  · repeat rw [if_pos h]
    refine zL_ifm (d_67_45 _ _ _ _ c1 c2) (fun h => ?_) (fun h => ?_)
    · repeat rw [if_pos h]
      refine zL_ifm (d_67_93 _ _ _ _ _) (fun h => ?_) (fun h => ?_)
      · repeat rw [if_pos h]
        exact zL_ret (d_67_102 _ _ _ _ _)
      · repeat rw [if_neg h]
        exact zL_ret (d_67_98 _ _ _ _ _)
    · repeat rw [if_neg h]
      refine zL_ifm (d_67_66 _ _ _ _ c1 c2) (fun h => ?_) (fun h => ?_)
      · repeat rw [if_pos h]
        exact zL_ret (d_67_91 _ _ _ _ _)
      · repeat rw [if_neg h]
        exact zL_ret (d_67_87 _ _ _ _ _)
  · repeat rw [if_neg h]
    refine zL_ifm (d_67_33 _ _ _ _ _) (fun h => ?_) (fun h => ?_)
    · repeat rw [if_pos h]
      exact zL_ret (d_67_43 _ _ _ _ _)
    · repeat rw [if_neg h]
      exact zL_ret (d_67_39 _ _ _ _ _)
/-! X7_queuePlaceOf -/
theorem d_68_0 {B : zeB} {im : Nat → Nat → Int32} {lm : Nat → Nat → Int64} (l1 : Int32) (o2 : Option Value) (o3 : Option Value)  : zeRun 68 0 [some (.ref 16), some (.int l1), o2, o3] [] (zk B im lm) = zeRun 68 4 [some (.ref 16), some (.int l1), some (.int 0), some (.int 0)] [] (zk B im lm) := ze_go (ok := true) rfl 4 rfl rfl
theorem d_68_4 {B : zeB} {im : Nat → Nat → Int32} {lm : Nat → Nat → Int64} (l1 : Int32) (l2 : Int32) (l3 : Int32)  : zeRun 68 4 [some (.ref 16), some (.int l1), some (.int l2), some (.int l3)] [] (zk B im lm) = if (im 17 1) ≤ l3 then zeRun 68 41 [some (.ref 16), some (.int l1), some (.int l2), some (.int l3)] [] (zk B im lm) else zeRun 68 15 [some (.ref 16), some (.int l1), some (.int l2), some (.int l3)] [] (zk B im lm) := ze_if (ok := true) rfl 5 rfl rfl
theorem d_68_41 {B : zeB} {im : Nat → Nat → Int32} {lm : Nat → Nat → Int64} (o0 : Option Value) (o1 : Option Value) (l2 : Int32) (o3 : Option Value)  : zeRun 68 41 [o0, o1, some (.int l2), o3] [] (zk B im lm) = some (some (.int l2), (zk B im lm)) := ze_ret (ok := true) rfl 2 rfl rfl
theorem d_68_15 {B : zeB} {im : Nat → Nat → Int32} {lm : Nat → Nat → Int64} (l1 : Int32) (l2 : Int32) (l3 : Int32)  : zeRun 68 15 [some (.ref 16), some (.int l1), some (.int l2), some (.int l3)] [] (zk B im lm) = zeBh 68 20 [some (.ref 16), some (.int l1), some (.int l2), some (.int l3)] [] (zeRun 56 0 [some (.ref 16), some (.int l3)] [] (zk B im lm)) := ze_call (ok := true) rfl 3 rfl rfl rfl
theorem d_68_20 {B : zeB} {im : Nat → Nat → Int32} {lm : Nat → Nat → Int64} (l1 : Int32) (l2 : Int32) (l3 : Int32) (s0 : Int32)  : zeRun 68 20 [some (.ref 16), some (.int l1), some (.int l2), some (.int l3)] [.int s0] (zk B im lm) = if s0 = 0 then zeRun 68 35 [some (.ref 16), some (.int l1), some (.int l2), some (.int l3)] [] (zk B im lm) else zeRun 68 23 [some (.ref 16), some (.int l1), some (.int l2), some (.int l3)] [] (zk B im lm) := ze_if (ok := true) rfl 1 rfl rfl
theorem d_68_35 {B : zeB} {im : Nat → Nat → Int32} {lm : Nat → Nat → Int64} (l1 : Int32) (l2 : Int32) (l3 : Int32)  : zeRun 68 35 [some (.ref 16), some (.int l1), some (.int l2), some (.int l3)] [] (zk B im lm) = zeRun 68 4 [some (.ref 16), some (.int l1), some (.int l2), some (.int (l3 + 1))] [] (zk B im lm) := ze_go (ok := true) rfl 2 rfl rfl
theorem d_68_23 {B : zeB} {im : Nat → Nat → Int32} {lm : Nat → Nat → Int64} (l1 : Int32) (l2 : Int32) (l3 : Int32)  : zeRun 68 23 [some (.ref 16), some (.int l1), some (.int l2), some (.int l3)] [] (zk B im lm) = zeBh 68 29 [some (.ref 16), some (.int l1), some (.int l2), some (.int l3)] [] (zeRun 67 0 [some (.ref 16), some (.int l3), some (.int l1), none, none] [] (zk B im lm)) := ze_call (ok := true) rfl 4 rfl rfl rfl
theorem d_68_29 {B : zeB} {im : Nat → Nat → Int32} {lm : Nat → Nat → Int64} (l1 : Int32) (l2 : Int32) (l3 : Int32) (s0 : Int32)  : zeRun 68 29 [some (.ref 16), some (.int l1), some (.int l2), some (.int l3)] [.int s0] (zk B im lm) = if s0 = 0 then zeRun 68 35 [some (.ref 16), some (.int l1), some (.int l2), some (.int l3)] [] (zk B im lm) else zeRun 68 32 [some (.ref 16), some (.int l1), some (.int l2), some (.int l3)] [] (zk B im lm) := ze_if (ok := true) rfl 1 rfl rfl
theorem d_68_32 {B : zeB} {im : Nat → Nat → Int32} {lm : Nat → Nat → Int64} (l1 : Int32) (l2 : Int32) (l3 : Int32)  : zeRun 68 32 [some (.ref 16), some (.int l1), some (.int l2), some (.int l3)] [] (zk B im lm) = zeRun 68 4 [some (.ref 16), some (.int l1), some (.int (l2 + 1)), some (.int (l3 + 1))] [] (zk B im lm) := ze_go (ok := true) rfl 3 rfl rfl
def F_68_4  : Nat → Int32 → Int32 → Int32 → zI → zJ → zR
  | 0, _, _, _, _, _ => none
  | n + 1, l1, l2, l3, im, lm =>
    if (im 17 1) ≤ l3 then
      some (l2, im, lm)
    else
      zBd (m_56 l3 im lm) fun v1 im1 lm1 =>
      if v1 = 0 then
        F_68_4  n l1 l2 (l3 + 1) im1 lm1
      else
        zBd (m_67 l3 l1 im1 lm1) fun v2 im2 lm2 =>
        F_68_4  n l1 (if v2 = 0 then l2 else (l2 + 1)) (l3 + 1) im2 lm2
theorem F_68_4_ok {B : zeB} : ∀ (n : Nat) (l1 : Int32) (l2 : Int32) (l3 : Int32)  (im : zI) (lm : zJ), zL B 1 (F_68_4  n l1 l2 l3 im lm) (zeRun 68 4 [some (.ref 16), some (.int l1), some (.int l2), some (.int l3)] [] (zk B im lm)) := by
  intro n
  induction n with
  | zero => intros; exact zL_none
  | succ n ih =>
    intro l1 l2 l3 im lm
    unfold F_68_4
    refine zL_if (d_68_4 _ _ _) (fun h => ?_) (fun h => ?_)
    · skip
      exact zL_ret (d_68_41 _ _ _ _)
    · skip
      refine zL_bd (d_68_15 _ _ _) (m_56_ok _ _ _) fun v1 im1 lm1 => ?_
      refine zL_if (d_68_20 _ _ _ _) (fun h => ?_) (fun h => ?_)
      · skip
        refine zL_eq (d_68_35 _ _ _) ?_
        exact ih _ _ _ _ _
      · skip
        refine zL_bd (d_68_23 _ _ _) (m_67_ok _ _ _ _) fun v2 im2 lm2 => ?_
        refine zL_ifm (d_68_29 _ _ _ _) (fun h => ?_) (fun h => ?_)
        · repeat rw [if_pos h]
          refine zL_eq (d_68_35 _ _ _) ?_
          exact ih _ _ _ _ _
        · repeat rw [if_neg h]
          refine zL_eq (d_68_32 _ _ _) ?_
          exact ih _ _ _ _ _
def m_68 (l1 : Int32) (im : zI) (lm : zJ) : zR :=
    F_68_4  2000 l1 0 0 im lm
theorem m_68_ok {B : zeB} (l1 : Int32) (im : zI) (lm : zJ) : zL B 1 (m_68 l1 im lm) (zeRun 68 0 [some (.ref 16), some (.int l1), none, none] [] (zk B im lm)) := by
  unfold m_68
  refine zL_eq (d_68_0 _ _ _) ?_
  exact F_68_4_ok  _ _ _ _ _ _
/-! X7_playerInQueue -/
theorem d_69_0 {B : zeB} {im : Nat → Nat → Int32} {lm : Nat → Nat → Int64} (l1 : Int32) (o2 : Option Value)  : zeRun 69 0 [some (.ref 16), some (.int l1), o2] [] (zk B im lm) = zeRun 69 2 [some (.ref 16), some (.int l1), some (.int 0)] [] (zk B im lm) := ze_go (ok := true) rfl 2 rfl rfl
theorem d_69_2 {B : zeB} {im : Nat → Nat → Int32} {lm : Nat → Nat → Int64} (l1 : Int32) (l2 : Int32)  : zeRun 69 2 [some (.ref 16), some (.int l1), some (.int l2)] [] (zk B im lm) = if (im 17 1) ≤ l2 then zeRun 69 38 [some (.ref 16), some (.int l1), some (.int l2)] [] (zk B im lm) else zeRun 69 13 [some (.ref 16), some (.int l1), some (.int l2)] [] (zk B im lm) := ze_if (ok := true) rfl 5 rfl rfl
theorem d_69_38 {B : zeB} {im : Nat → Nat → Int32} {lm : Nat → Nat → Int64} (o0 : Option Value) (o1 : Option Value) (o2 : Option Value)  : zeRun 69 38 [o0, o1, o2] [] (zk B im lm) = some (some (.int (-10000005)), (zk B im lm)) := ze_ret (ok := true) rfl 2 rfl rfl
theorem d_69_13 {B : zeB} {im : Nat → Nat → Int32} {lm : Nat → Nat → Int64} (l1 : Int32) (l2 : Int32)  : zeRun 69 13 [some (.ref 16), some (.int l1), some (.int l2)] [] (zk B im lm) = zeBh 69 18 [some (.ref 16), some (.int l1), some (.int l2)] [] (zeRun 56 0 [some (.ref 16), some (.int l2)] [] (zk B im lm)) := ze_call (ok := true) rfl 3 rfl rfl rfl
theorem d_69_18 {B : zeB} {im : Nat → Nat → Int32} {lm : Nat → Nat → Int64} (l1 : Int32) (l2 : Int32) (s0 : Int32)  : zeRun 69 18 [some (.ref 16), some (.int l1), some (.int l2)] [.int s0] (zk B im lm) = if s0 = 0 then zeRun 69 32 [some (.ref 16), some (.int l1), some (.int l2)] [] (zk B im lm) else zeRun 69 21 [some (.ref 16), some (.int l1), some (.int l2)] [] (zk B im lm) := ze_if (ok := true) rfl 1 rfl rfl
theorem d_69_32 {B : zeB} {im : Nat → Nat → Int32} {lm : Nat → Nat → Int64} (l1 : Int32) (l2 : Int32)  : zeRun 69 32 [some (.ref 16), some (.int l1), some (.int l2)] [] (zk B im lm) = zeRun 69 2 [some (.ref 16), some (.int l1), some (.int (l2 + 1))] [] (zk B im lm) := ze_go (ok := true) rfl 2 rfl rfl
theorem d_69_21 {B : zeB} {im : Nat → Nat → Int32} {lm : Nat → Nat → Int64} (l1 : Int32) (l2 : Int32)  : zeRun 69 21 [some (.ref 16), some (.int l1), some (.int l2)] [] (zk B im lm) = zeBh 69 26 [some (.ref 16), some (.int l1), some (.int l2)] [] (zeRun 68 0 [some (.ref 16), some (.int l2), none, none] [] (zk B im lm)) := ze_call (ok := true) rfl 3 rfl rfl rfl
theorem d_69_26 {B : zeB} {im : Nat → Nat → Int32} {lm : Nat → Nat → Int64} (l1 : Int32) (l2 : Int32) (s0 : Int32)  : zeRun 69 26 [some (.ref 16), some (.int l1), some (.int l2)] [.int s0] (zk B im lm) = if s0 = l1 then zeRun 69 30 [some (.ref 16), some (.int l1), some (.int l2)] [] (zk B im lm) else zeRun 69 32 [some (.ref 16), some (.int l1), some (.int l2)] [] (zk B im lm) := ze_if (ok := true) rfl 2 rfl rfl
theorem d_69_30 {B : zeB} {im : Nat → Nat → Int32} {lm : Nat → Nat → Int64} (o0 : Option Value) (o1 : Option Value) (l2 : Int32)  : zeRun 69 30 [o0, o1, some (.int l2)] [] (zk B im lm) = some (some (.int l2), (zk B im lm)) := ze_ret (ok := true) rfl 2 rfl rfl
def F_69_2  : Nat → Int32 → Int32 → zI → zJ → zR
  | 0, _, _, _, _ => none
  | n + 1, l1, l2, im, lm =>
    if (im 17 1) ≤ l2 then
      some ((-10000005), im, lm)
    else
      zBd (m_56 l2 im lm) fun v1 im1 lm1 =>
      if v1 = 0 then
        F_69_2  n l1 (l2 + 1) im1 lm1
      else
        zBd (m_68 l2 im1 lm1) fun v2 im2 lm2 =>
        if v2 = l1 then
          some (l2, im2, lm2)
        else
          F_69_2  n l1 (l2 + 1) im2 lm2
theorem F_69_2_ok {B : zeB} : ∀ (n : Nat) (l1 : Int32) (l2 : Int32)  (im : zI) (lm : zJ), zL B 1 (F_69_2  n l1 l2 im lm) (zeRun 69 2 [some (.ref 16), some (.int l1), some (.int l2)] [] (zk B im lm)) := by
  intro n
  induction n with
  | zero => intros; exact zL_none
  | succ n ih =>
    intro l1 l2 im lm
    unfold F_69_2
    refine zL_if (d_69_2 _ _) (fun h => ?_) (fun h => ?_)
    · skip
      exact zL_ret (d_69_38 _ _ _)
    · skip
      refine zL_bd (d_69_13 _ _) (m_56_ok _ _ _) fun v1 im1 lm1 => ?_
      refine zL_if (d_69_18 _ _ _) (fun h => ?_) (fun h => ?_)
      · skip
        refine zL_eq (d_69_32 _ _) ?_
        exact ih _ _ _ _
      · skip
        refine zL_bd (d_69_21 _ _) (m_68_ok _ _ _) fun v2 im2 lm2 => ?_
        refine zL_if (d_69_26 _ _ _) (fun h => ?_) (fun h => ?_)
        · skip
          exact zL_ret (d_69_30 _ _ _)
        · skip
          refine zL_eq (d_69_32 _ _) ?_
          exact ih _ _ _ _
def m_69 (l1 : Int32) (im : zI) (lm : zJ) : zR :=
    F_69_2  2000 l1 0 im lm
theorem m_69_ok {B : zeB} (l1 : Int32) (im : zI) (lm : zJ) : zL B 1 (m_69 l1 im lm) (zeRun 69 0 [some (.ref 16), some (.int l1), none] [] (zk B im lm)) := by
  unfold m_69
  refine zL_eq (d_69_0 _ _) ?_
  exact F_69_2_ok  _ _ _ _ _
/-! X0_isEarlier -/
theorem d_80_0 {B : zeB} {im : Nat → Nat → Int32} {lm : Nat → Nat → Int64} (l1 : Int32) (l2 : Int32) (c0 : zeInb l1 6 = true) (c1 : zeInb l2 6 = true) : zeRun 80 0 [some (.ref 23), some (.int l1), some (.int l2)] [] (zk B im lm) = if (im 24 (Int32.toNatClampNeg l1)) = (im 24 (Int32.toNatClampNeg l2)) then zeRun 80 36 [some (.ref 23), some (.int l1), some (.int l2)] [] (zk B im lm) else zeRun 80 15 [some (.ref 23), some (.int l1), some (.int l2)] [] (zk B im lm) := ze_if (ok := (zeInb l2 6 && (zeInb l1 6 && true))) rfl 9 rfl (zeA2 c1 (zeA2 c0 rfl))
theorem d_80_36 {B : zeB} {im : Nat → Nat → Int32} {lm : Nat → Nat → Int64} (o0 : Option Value) (l1 : Int32) (l2 : Int32)  : zeRun 80 36 [o0, some (.int l1), some (.int l2)] [] (zk B im lm) = if l2 ≤ l1 then zeRun 80 45 [o0, some (.int l1), some (.int l2)] [] (zk B im lm) else zeRun 80 41 [o0, some (.int l1), some (.int l2)] [] (zk B im lm) := ze_if (ok := true) rfl 3 rfl rfl
theorem d_80_45 {B : zeB} {im : Nat → Nat → Int32} {lm : Nat → Nat → Int64} (o0 : Option Value) (o1 : Option Value) (o2 : Option Value)  : zeRun 80 45 [o0, o1, o2] [] (zk B im lm) = some (some (.int 0), (zk B im lm)) := ze_ret (ok := true) rfl 2 rfl rfl
theorem d_80_41 {B : zeB} {im : Nat → Nat → Int32} {lm : Nat → Nat → Int64} (o0 : Option Value) (o1 : Option Value) (o2 : Option Value)  : zeRun 80 41 [o0, o1, o2] [] (zk B im lm) = some (some (.int 1), (zk B im lm)) := ze_ret (ok := true) rfl 3 rfl rfl
theorem d_80_15 {B : zeB} {im : Nat → Nat → Int32} {lm : Nat → Nat → Int64} (l1 : Int32) (l2 : Int32) (c0 : zeInb l1 6 = true) (c1 : zeInb l2 6 = true) : zeRun 80 15 [some (.ref 23), some (.int l1), some (.int l2)] [] (zk B im lm) = if (im 24 (Int32.toNatClampNeg l2)) ≤ (im 24 (Int32.toNatClampNeg l1)) then zeRun 80 34 [some (.ref 23), some (.int l1), some (.int l2)] [] (zk B im lm) else zeRun 80 30 [some (.ref 23), some (.int l1), some (.int l2)] [] (zk B im lm) := ze_if (ok := (zeInb l2 6 && (zeInb l1 6 && true))) rfl 9 rfl (zeA2 c1 (zeA2 c0 rfl))
theorem d_80_34 {B : zeB} {im : Nat → Nat → Int32} {lm : Nat → Nat → Int64} (o0 : Option Value) (o1 : Option Value) (o2 : Option Value)  : zeRun 80 34 [o0, o1, o2] [] (zk B im lm) = some (some (.int 0), (zk B im lm)) := ze_ret (ok := true) rfl 2 rfl rfl
theorem d_80_30 {B : zeB} {im : Nat → Nat → Int32} {lm : Nat → Nat → Int64} (o0 : Option Value) (o1 : Option Value) (o2 : Option Value)  : zeRun 80 30 [o0, o1, o2] [] (zk B im lm) = some (some (.int 1), (zk B im lm)) := ze_ret (ok := true) rfl 3 rfl rfl
def m_80 (l1 : Int32) (l2 : Int32) (im : zI) (lm : zJ) : zR :=
    zCk (zeInb l1 6) <|
    zCk (zeInb l2 6) <|
    some (if (im 24 (Int32.toNatClampNeg l1)) = (im 24 (Int32.toNatClampNeg l2)) then if l2 ≤ l1 then 0 else 1 else if (im 24 (Int32.toNatClampNeg l2)) ≤ (im 24 (Int32.toNatClampNeg l1)) then 0 else 1, im, lm)
theorem m_80_ok {B : zeB} (l1 : Int32) (l2 : Int32) (im : zI) (lm : zJ) : zL B 1 (m_80 l1 l2 im lm) (zeRun 80 0 [some (.ref 23), some (.int l1), some (.int l2)] [] (zk B im lm)) := by
  unfold m_80
  refine zL_ck fun c1 => ?_
  refine zL_ck fun c2 => ?_
  refine zL_ifm (d_80_0 _ _ c1 c2) (fun h => ?_) (fun h => ?_)
  · repeat rw [if_pos h]
    refine zL_ifm (d_80_36 _ _ _) (fun h => ?_) (fun h => ?_)
    · repeat rw [if_pos h]
      exact zL_ret (d_80_45 _ _ _)
    · repeat rw [if_neg h]
      exact zL_ret (d_80_41 _ _ _)
  · repeat rw [if_neg h]
    refine zL_ifm (d_80_15 _ _ c1 c2) (fun h => ?_) (fun h => ?_)
    · repeat rw [if_pos h]
      exact zL_ret (d_80_34 _ _ _)
    · repeat rw [if_neg h]
      exact zL_ret (d_80_30 _ _ _)
/-! X0_turnOf -/
theorem d_81_0 {B : zeB} {im : Nat → Nat → Int32} {lm : Nat → Nat → Int64} (l1 : Int32) (o2 : Option Value) (o3 : Option Value)  : zeRun 81 0 [some (.ref 23), some (.int l1), o2, o3] [] (zk B im lm) = zeRun 81 4 [some (.ref 23), some (.int l1), some (.int 0), some (.int 0)] [] (zk B im lm) := ze_go (ok := true) rfl 4 rfl rfl
theorem d_81_4 {B : zeB} {im : Nat → Nat → Int32} {lm : Nat → Nat → Int64} (l1 : Int32) (l2 : Int32) (l3 : Int32)  : zeRun 81 4 [some (.ref 23), some (.int l1), some (.int l2), some (.int l3)] [] (zk B im lm) = if 6 ≤ l3 then zeRun 81 37 [some (.ref 23), some (.int l1), some (.int l2), some (.int l3)] [] (zk B im lm) else zeRun 81 10 [some (.ref 23), some (.int l1), some (.int l2), some (.int l3)] [] (zk B im lm) := ze_if (ok := true) rfl 3 rfl rfl
theorem d_81_37 {B : zeB} {im : Nat → Nat → Int32} {lm : Nat → Nat → Int64} (o0 : Option Value) (o1 : Option Value) (l2 : Int32) (o3 : Option Value)  : zeRun 81 37 [o0, o1, some (.int l2), o3] [] (zk B im lm) = some (some (.int l2), (zk B im lm)) := ze_ret (ok := true) rfl 2 rfl rfl
theorem d_81_10 {B : zeB} {im : Nat → Nat → Int32} {lm : Nat → Nat → Int64} (l1 : Int32) (l2 : Int32) (l3 : Int32) (c0 : zeInb l3 6 = true) : zeRun 81 10 [some (.ref 23), some (.int l1), some (.int l2), some (.int l3)] [] (zk B im lm) = if (im 24 (Int32.toNatClampNeg l3)) ≤ 0 then zeRun 81 31 [some (.ref 23), some (.int l1), some (.int l2), some (.int l3)] [] (zk B im lm) else zeRun 81 19 [some (.ref 23), some (.int l1), some (.int l2), some (.int l3)] [] (zk B im lm) := ze_if (ok := (zeInb l3 6 && true)) rfl 5 rfl (zeA2 c0 rfl)
theorem d_81_31 {B : zeB} {im : Nat → Nat → Int32} {lm : Nat → Nat → Int64} (l1 : Int32) (l2 : Int32) (l3 : Int32)  : zeRun 81 31 [some (.ref 23), some (.int l1), some (.int l2), some (.int l3)] [] (zk B im lm) = zeRun 81 4 [some (.ref 23), some (.int l1), some (.int l2), some (.int (l3 + 1))] [] (zk B im lm) := ze_go (ok := true) rfl 2 rfl rfl
theorem d_81_19 {B : zeB} {im : Nat → Nat → Int32} {lm : Nat → Nat → Int64} (l1 : Int32) (l2 : Int32) (l3 : Int32)  : zeRun 81 19 [some (.ref 23), some (.int l1), some (.int l2), some (.int l3)] [] (zk B im lm) = zeBh 81 25 [some (.ref 23), some (.int l1), some (.int l2), some (.int l3)] [] (zeRun 80 0 [some (.ref 23), some (.int l3), some (.int l1)] [] (zk B im lm)) := ze_call (ok := true) rfl 4 rfl rfl rfl
theorem d_81_25 {B : zeB} {im : Nat → Nat → Int32} {lm : Nat → Nat → Int64} (l1 : Int32) (l2 : Int32) (l3 : Int32) (s0 : Int32)  : zeRun 81 25 [some (.ref 23), some (.int l1), some (.int l2), some (.int l3)] [.int s0] (zk B im lm) = if s0 = 0 then zeRun 81 31 [some (.ref 23), some (.int l1), some (.int l2), some (.int l3)] [] (zk B im lm) else zeRun 81 28 [some (.ref 23), some (.int l1), some (.int l2), some (.int l3)] [] (zk B im lm) := ze_if (ok := true) rfl 1 rfl rfl
theorem d_81_28 {B : zeB} {im : Nat → Nat → Int32} {lm : Nat → Nat → Int64} (l1 : Int32) (l2 : Int32) (l3 : Int32)  : zeRun 81 28 [some (.ref 23), some (.int l1), some (.int l2), some (.int l3)] [] (zk B im lm) = zeRun 81 4 [some (.ref 23), some (.int l1), some (.int (l2 + 1)), some (.int (l3 + 1))] [] (zk B im lm) := ze_go (ok := true) rfl 3 rfl rfl
def F_81_4  : Nat → Int32 → Int32 → Int32 → zI → zJ → zR
  | 0, _, _, _, _, _ => none
  | n + 1, l1, l2, l3, im, lm =>
    if 6 ≤ l3 then
      some (l2, im, lm)
    else
      zCk (zeInb l3 6) <|
      if (im 24 (Int32.toNatClampNeg l3)) ≤ 0 then
        F_81_4  n l1 l2 (l3 + 1) im lm
      else
        zBd (m_80 l3 l1 im lm) fun v1 im1 lm1 =>
        F_81_4  n l1 (if v1 = 0 then l2 else (l2 + 1)) (l3 + 1) im1 lm1
theorem F_81_4_ok {B : zeB} : ∀ (n : Nat) (l1 : Int32) (l2 : Int32) (l3 : Int32)  (im : zI) (lm : zJ), zL B 1 (F_81_4  n l1 l2 l3 im lm) (zeRun 81 4 [some (.ref 23), some (.int l1), some (.int l2), some (.int l3)] [] (zk B im lm)) := by
  intro n
  induction n with
  | zero => intros; exact zL_none
  | succ n ih =>
    intro l1 l2 l3 im lm
    unfold F_81_4
    refine zL_if (d_81_4 _ _ _) (fun h => ?_) (fun h => ?_)
    · skip
      exact zL_ret (d_81_37 _ _ _ _)
    · skip
      refine zL_ck fun c1 => ?_
      refine zL_if (d_81_10 _ _ _ c1) (fun h => ?_) (fun h => ?_)
      · skip
        refine zL_eq (d_81_31 _ _ _) ?_
        exact ih _ _ _ _ _
      · skip
        refine zL_bd (d_81_19 _ _ _) (m_80_ok _ _ _ _) fun v1 im1 lm1 => ?_
        refine zL_ifm (d_81_25 _ _ _ _) (fun h => ?_) (fun h => ?_)
        · repeat rw [if_pos h]
          refine zL_eq (d_81_31 _ _ _) ?_
          exact ih _ _ _ _ _
        · repeat rw [if_neg h]
          refine zL_eq (d_81_28 _ _ _) ?_
          exact ih _ _ _ _ _
def m_81 (l1 : Int32) (im : zI) (lm : zJ) : zR :=
    F_81_4  2000 l1 0 0 im lm
theorem m_81_ok {B : zeB} (l1 : Int32) (im : zI) (lm : zJ) : zL B 1 (m_81 l1 im lm) (zeRun 81 0 [some (.ref 23), some (.int l1), none, none] [] (zk B im lm)) := by
  unfold m_81
  refine zL_eq (d_81_0 _ _ _) ?_
  exact F_81_4_ok  _ _ _ _ _ _
/-! X0_nextToAnswer -/
theorem d_82_0 {B : zeB} {im : Nat → Nat → Int32} {lm : Nat → Nat → Int64} (o1 : Option Value)  : zeRun 82 0 [some (.ref 23), o1] [] (zk B im lm) = zeRun 82 2 [some (.ref 23), some (.int 0)] [] (zk B im lm) := ze_go (ok := true) rfl 2 rfl rfl
theorem d_82_2 {B : zeB} {im : Nat → Nat → Int32} {lm : Nat → Nat → Int64} (l1 : Int32)  : zeRun 82 2 [some (.ref 23), some (.int l1)] [] (zk B im lm) = if 6 ≤ l1 then zeRun 82 37 [some (.ref 23), some (.int l1)] [] (zk B im lm) else zeRun 82 8 [some (.ref 23), some (.int l1)] [] (zk B im lm) := ze_if (ok := true) rfl 3 rfl rfl
theorem d_82_37 {B : zeB} {im : Nat → Nat → Int32} {lm : Nat → Nat → Int64} (o0 : Option Value) (o1 : Option Value)  : zeRun 82 37 [o0, o1] [] (zk B im lm) = some (some (.int (-10000005)), (zk B im lm)) := ze_ret (ok := true) rfl 2 rfl rfl
theorem d_82_8 {B : zeB} {im : Nat → Nat → Int32} {lm : Nat → Nat → Int64} (l1 : Int32) (c0 : zeInb l1 6 = true) : zeRun 82 8 [some (.ref 23), some (.int l1)] [] (zk B im lm) = if (im 24 (Int32.toNatClampNeg l1)) ≤ 0 then zeRun 82 31 [some (.ref 23), some (.int l1)] [] (zk B im lm) else zeRun 82 17 [some (.ref 23), some (.int l1)] [] (zk B im lm) := ze_if (ok := (zeInb l1 6 && true)) rfl 5 rfl (zeA2 c0 rfl)
theorem d_82_31 {B : zeB} {im : Nat → Nat → Int32} {lm : Nat → Nat → Int64} (l1 : Int32)  : zeRun 82 31 [some (.ref 23), some (.int l1)] [] (zk B im lm) = zeRun 82 2 [some (.ref 23), some (.int (l1 + 1))] [] (zk B im lm) := ze_go (ok := true) rfl 2 rfl rfl
theorem d_82_17 {B : zeB} {im : Nat → Nat → Int32} {lm : Nat → Nat → Int64} (l1 : Int32)  : zeRun 82 17 [some (.ref 23), some (.int l1)] [] (zk B im lm) = zeBh 82 22 [some (.ref 23), some (.int l1)] [] (zeRun 81 0 [some (.ref 23), some (.int l1), none, none] [] (zk B im lm)) := ze_call (ok := true) rfl 3 rfl rfl rfl
theorem d_82_22 {B : zeB} {im : Nat → Nat → Int32} {lm : Nat → Nat → Int64} (l1 : Int32) (s0 : Int32)  : zeRun 82 22 [some (.ref 23), some (.int l1)] [.int s0] (zk B im lm) = if s0 = (im 23 0) then zeRun 82 29 [some (.ref 23), some (.int l1)] [] (zk B im lm) else zeRun 82 31 [some (.ref 23), some (.int l1)] [] (zk B im lm) := ze_if (ok := true) rfl 3 rfl rfl
theorem d_82_29 {B : zeB} {im : Nat → Nat → Int32} {lm : Nat → Nat → Int64} (o0 : Option Value) (l1 : Int32)  : zeRun 82 29 [o0, some (.int l1)] [] (zk B im lm) = some (some (.int l1), (zk B im lm)) := ze_ret (ok := true) rfl 2 rfl rfl
def F_82_2  : Nat → Int32 → zI → zJ → zR
  | 0, _, _, _ => none
  | n + 1, l1, im, lm =>
    if 6 ≤ l1 then
      some ((-10000005), im, lm)
    else
      zCk (zeInb l1 6) <|
      if (im 24 (Int32.toNatClampNeg l1)) ≤ 0 then
        F_82_2  n (l1 + 1) im lm
      else
        zBd (m_81 l1 im lm) fun v1 im1 lm1 =>
        if v1 = (im1 23 0) then
          some (l1, im1, lm1)
        else
          F_82_2  n (l1 + 1) im1 lm1
theorem F_82_2_ok {B : zeB} : ∀ (n : Nat) (l1 : Int32)  (im : zI) (lm : zJ), zL B 1 (F_82_2  n l1 im lm) (zeRun 82 2 [some (.ref 23), some (.int l1)] [] (zk B im lm)) := by
  intro n
  induction n with
  | zero => intros; exact zL_none
  | succ n ih =>
    intro l1 im lm
    unfold F_82_2
    refine zL_if (d_82_2 _) (fun h => ?_) (fun h => ?_)
    · skip
      exact zL_ret (d_82_37 _ _)
    · skip
      refine zL_ck fun c1 => ?_
      refine zL_if (d_82_8 _ c1) (fun h => ?_) (fun h => ?_)
      · skip
        refine zL_eq (d_82_31 _) ?_
        exact ih _ _ _
      · skip
        refine zL_bd (d_82_17 _) (m_81_ok _ _ _) fun v1 im1 lm1 => ?_
        refine zL_if (d_82_22 _ _) (fun h => ?_) (fun h => ?_)
        · skip
          exact zL_ret (d_82_29 _ _)
        · skip
          refine zL_eq (d_82_31 _) ?_
          exact ih _ _ _
def m_82  (im : zI) (lm : zJ) : zR :=
    F_82_2  2000 0 im lm
theorem m_82_ok {B : zeB}  (im : zI) (lm : zJ) : zL B 1 (m_82  im lm) (zeRun 82 0 [some (.ref 23), none] [] (zk B im lm)) := by
  unfold m_82
  refine zL_eq (d_82_0 _) ?_
  exact F_82_2_ok  _ _ _ _
/-! X7_playerToAnswer -/
theorem d_8_0 {B : zeB} {im : Nat → Nat → Int32} {lm : Nat → Nat → Int64}   : zeRun 8 0 [some (.ref 16)] [] (zk B im lm) = zeRun 8 (zeSw (im 17 0) 43 [(1, 32), (3, 38)]) [some (.ref 16)] [] (zk B im lm) := ze_go (ok := true) rfl 4 rfl rfl
theorem d_8_32 {B : zeB} {im : Nat → Nat → Int32} {lm : Nat → Nat → Int64}   : zeRun 8 32 [some (.ref 16)] [] (zk B im lm) = zeBh 8 37 [some (.ref 16)] [] (zeRun 69 0 [some (.ref 16), some (.int 0), none] [] (zk B im lm)) := ze_call (ok := true) rfl 3 rfl rfl rfl
theorem d_8_37 {B : zeB} {im : Nat → Nat → Int32} {lm : Nat → Nat → Int64} (o0 : Option Value) (s0 : Int32)  : zeRun 8 37 [o0] [.int s0] (zk B im lm) = some (some (.int s0), (zk B im lm)) := ze_ret (ok := true) rfl 1 rfl rfl
theorem d_8_38 {B : zeB} {im : Nat → Nat → Int32} {lm : Nat → Nat → Int64}   : zeRun 8 38 [some (.ref 16)] [] (zk B im lm) = zeBh 8 42 [some (.ref 16)] [] (zeRun 39 0 [some (.ref 16)] [] (zk B im lm)) := ze_call (ok := true) rfl 2 rfl rfl rfl
theorem d_8_42 {B : zeB} {im : Nat → Nat → Int32} {lm : Nat → Nat → Int64} (o0 : Option Value) (s0 : Int32)  : zeRun 8 42 [o0] [.int s0] (zk B im lm) = some (some (.int s0), (zk B im lm)) := ze_ret (ok := true) rfl 1 rfl rfl
theorem d_8_43 {B : zeB} {im : Nat → Nat → Int32} {lm : Nat → Nat → Int64}   : zeRun 8 43 [some (.ref 16)] [] (zk B im lm) = zeBh 8 53 [some (.ref 16)] [] (zeRun 82 0 [some (.ref 23), none] [] (zk B im lm)) := ze_call (ok := true) rfl 4 rfl rfl rfl
theorem d_8_53 {B : zeB} {im : Nat → Nat → Int32} {lm : Nat → Nat → Int64} (o0 : Option Value) (s0 : Int32)  : zeRun 8 53 [o0] [.int s0] (zk B im lm) = some (some (.int s0), (zk B im lm)) := ze_ret (ok := true) rfl 1 rfl rfl
def m_8  (im : zI) (lm : zJ) : zR :=
    if (im 17 0) = 1 then
      zBd (m_69 0 im lm) fun v1 im1 lm1 =>
      some (v1, im1, lm1)
    else
      if (im 17 0) = 3 then
        some ((if (im 17 1) = 0 then (-10000005) else (im 32 0) : Int32), im, lm)
      else
        zBd (m_82  im lm) fun v3 im3 lm3 =>
        some (v3, im3, lm3)
theorem m_8_ok {B : zeB}  (im : zI) (lm : zJ) : zL B 1 (m_8  im lm) (zeRun 8 0 [some (.ref 16)] [] (zk B im lm)) := by
  unfold m_8
  refine zL_eq d_8_0 ?_
  refine zL_sw (fun h => ?_) (fun h => ?_)
  · skip
    refine zL_bd d_8_32 (m_69_ok _ _ _) fun v1 im1 lm1 => ?_
    exact zL_ret (d_8_37 _ _)
  refine zL_sw (fun h => ?_) (fun h => ?_)
  · skip
    refine zL_bdp (e := (if (im 17 1) = 0 then (-10000005) else (im 32 0) : Int32)) d_8_38 (m_39_ok _ _) ?_
    exact zL_ret (d_8_42 _ _)
  refine zL_swd ?_
  refine zL_bd d_8_43 (m_82_ok _ _) fun v3 im3 lm3 => ?_
  exact zL_ret (d_8_53 _ _)
/-! X2_isFull -/
theorem d_70_0 {B : zeB} {im : Nat → Nat → Int32} {lm : Nat → Nat → Int64}   : zeRun 70 0 [some (.ref 26)] [] (zk B im lm) = if (im 26 0) < 60 then zeRun 70 13 [some (.ref 26)] [] (zk B im lm) else zeRun 70 9 [some (.ref 26)] [] (zk B im lm) := ze_if (ok := true) rfl 4 rfl rfl
theorem d_70_13 {B : zeB} {im : Nat → Nat → Int32} {lm : Nat → Nat → Int64} (o0 : Option Value)  : zeRun 70 13 [o0] [] (zk B im lm) = some (some (.int 0), (zk B im lm)) := ze_ret (ok := true) rfl 2 rfl rfl
theorem d_70_9 {B : zeB} {im : Nat → Nat → Int32} {lm : Nat → Nat → Int64} (o0 : Option Value)  : zeRun 70 9 [o0] [] (zk B im lm) = some (some (.int 1), (zk B im lm)) := ze_ret (ok := true) rfl 3 rfl rfl
def m_70  (im : zI) (lm : zJ) : zR :=
    some (if (im 26 0) < 60 then 0 else 1, im, lm)
theorem m_70_ok {B : zeB}  (im : zI) (lm : zJ) : zL B 1 (m_70  im lm) (zeRun 70 0 [some (.ref 26)] [] (zk B im lm)) := by
  unfold m_70
  refine zL_ifm d_70_0 (fun h => ?_) (fun h => ?_)
  · repeat rw [if_pos h]
    exact zL_ret (d_70_13 _)
  · repeat rw [if_neg h]
    exact zL_ret (d_70_9 _)
/-! X2_append -/
theorem d_71_0 {B : zeB} {im : Nat → Nat → Int32} {lm : Nat → Nat → Int64} (l1 : Int32) (l2 : Int32) (l3 : Int32) (l4 : Int32) (l5 : Int32)  : zeRun 71 0 [some (.ref 26), some (.int l1), some (.int l2), some (.int l3), some (.int l4), some (.int l5)] [] (zk B im lm) = zeBh 71 4 [some (.ref 26), some (.int l1), some (.int l2), some (.int l3), some (.int l4), some (.int l5)] [] (zeRun 70 0 [some (.ref 26)] [] (zk B im lm)) := ze_call (ok := true) rfl 2 rfl rfl rfl
theorem d_71_4 {B : zeB} {im : Nat → Nat → Int32} {lm : Nat → Nat → Int64} (l1 : Int32) (l2 : Int32) (l3 : Int32) (l4 : Int32) (l5 : Int32) (s0 : Int32)  : zeRun 71 4 [some (.ref 26), some (.int l1), some (.int l2), some (.int l3), some (.int l4), some (.int l5)] [.int s0] (zk B im lm) = if s0 = 0 then zeRun 71 8 [some (.ref 26), some (.int l1), some (.int l2), some (.int l3), some (.int l4), some (.int l5)] [] (zk B im lm) else zeRun 71 7 [some (.ref 26), some (.int l1), some (.int l2), some (.int l3), some (.int l4), some (.int l5)] [] (zk B im lm) := ze_if (ok := true) rfl 1 rfl rfl
theorem d_71_8 {B : zeB} {im : Nat → Nat → Int32} {lm : Nat → Nat → Int64} (l1 : Int32) (l2 : Int32) (l3 : Int32) (l4 : Int32) (l5 : Int32) (c0 : zeInb (im 26 0) 60 = true) (c1 : zeInb (im 26 0) 60 = true) (c2 : zeInb (im 26 0) 60 = true) (c3 : zeInb (im 26 0) 60 = true) (c4 : zeInb (im 26 0) 60 = true) : zeRun 71 8 [some (.ref 26), some (.int l1), some (.int l2), some (.int l3), some (.int l4), some (.int l5)] [] (zk B im lm) = some (none, (zk B (zeU2 (zeU2 (zeU2 (zeU2 (zeU2 (zeU2 im 27 (Int32.toNatClampNeg (im 26 0)) l1) 28 (Int32.toNatClampNeg (im 26 0)) l2) 29 (Int32.toNatClampNeg (im 26 0)) l3) 30 (Int32.toNatClampNeg (im 26 0)) l4) 31 (Int32.toNatClampNeg (im 26 0)) l5) 26 0 ((im 26 0) + 1)) lm)) := ze_ret (ok := (zeInb (im 26 0) 60 && (zeInb (im 26 0) 60 && (zeInb (im 26 0) 60 && (zeInb (im 26 0) 60 && (zeInb (im 26 0) 60 && true)))))) rfl 37 rfl (zeA2 c4 (zeA2 c3 (zeA2 c2 (zeA2 c1 (zeA2 c0 rfl)))))
theorem d_71_7 {B : zeB} {im : Nat → Nat → Int32} {lm : Nat → Nat → Int64} (o0 : Option Value) (o1 : Option Value) (o2 : Option Value) (o3 : Option Value) (o4 : Option Value) (o5 : Option Value)  : zeRun 71 7 [o0, o1, o2, o3, o4, o5] [] (zk B im lm) = some (none, (zk B im lm)) := ze_ret (ok := true) rfl 1 rfl rfl
def m_71 (l1 : Int32) (l2 : Int32) (l3 : Int32) (l4 : Int32) (l5 : Int32) (im : zI) (lm : zJ) : zR :=
    zCk (if (if (im 26 0) < 60 then 0 else 1 : Int32) = 0 then zeInb (im 26 0) 60 else true) <|
    some (0, if (if (im 26 0) < 60 then 0 else 1 : Int32) = 0 then (zeU2 (zeU2 (zeU2 (zeU2 (zeU2 (zeU2 im 27 (Int32.toNatClampNeg (im 26 0)) l1) 28 (Int32.toNatClampNeg (im 26 0)) l2) 29 (Int32.toNatClampNeg (im 26 0)) l3) 30 (Int32.toNatClampNeg (im 26 0)) l4) 31 (Int32.toNatClampNeg (im 26 0)) l5) 26 0 ((im 26 0) + 1)) else im, lm)
theorem m_71_ok {B : zeB} (l1 : Int32) (l2 : Int32) (l3 : Int32) (l4 : Int32) (l5 : Int32) (im : zI) (lm : zJ) : zL B 0 (m_71 l1 l2 l3 l4 l5 im lm) (zeRun 71 0 [some (.ref 26), some (.int l1), some (.int l2), some (.int l3), some (.int l4), some (.int l5)] [] (zk B im lm)) := by
  unfold m_71
  refine zL_bdp (e := (if (im 26 0) < 60 then 0 else 1 : Int32)) (d_71_0 _ _ _ _ _) (m_70_ok _ _) ?_
  refine zL_ifm (d_71_4 _ _ _ _ _ _) (fun h => ?_) (fun h => ?_)
  · repeat rw [if_pos h]
    refine zL_ck fun c1 => ?_
    exact zL_retv (d_71_8 _ _ _ _ _ c1 c1 c1 c1 c1)
  · repeat rw [if_neg h]
    refine zL_ckt ?_
    exact zL_retv (d_71_7 _ _ _ _ _ _)
