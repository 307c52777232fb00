/-! pure: X7_playersAbove, X4_isAhead, X7_placeOf, X7_player, X8_rank, X8_isBefore, X8_placeOf, X8_orNone, X8_player, X7_playerAtPlace, X7_ordered -/
/-! X7_playersAbove -/
theorem d_153_0 {B : zeB} {im : Nat → Nat → Int32} {lm : Nat → Nat → Int64} (l1 : Int32) (o2 : Option Value) (o3 : Option Value)  : zeRun 153 0 [some (.ref 16), some (.int l1), o2, o3] [] (zk B im lm) = zeRun 153 4 [some (.ref 16), some (.int l1), some (.int 0), some (.int 0)] [] (zk B im lm) := ze_go (ok := true) rfl 4 rfl rfl
theorem d_153_4 {B : zeB} {im : Nat → Nat → Int32} {lm : Nat → Nat → Int64} (l1 : Int32) (l2 : Int32) (l3 : Int32)  : zeRun 153 4 [some (.ref 16), some (.int l1), some (.int l2), some (.int l3)] [] (zk B im lm) = if (im 17 1) ≤ l3 then zeRun 153 37 [some (.ref 16), some (.int l1), some (.int l2), some (.int l3)] [] (zk B im lm) else zeRun 153 15 [some (.ref 16), some (.int l1), some (.int l2), some (.int l3)] [] (zk B im lm) := ze_if (ok := true) rfl 5 rfl rfl
theorem d_153_37 {B : zeB} {im : Nat → Nat → Int32} {lm : Nat → Nat → Int64} (o0 : Option Value) (o1 : Option Value) (l2 : Int32) (o3 : Option Value)  : zeRun 153 37 [o0, o1, some (.int l2), o3] [] (zk B im lm) = some (some (.int l2), (zk B im lm)) := ze_ret (ok := true) rfl 2 rfl rfl
theorem d_153_15 {B : zeB} {im : Nat → Nat → Int32} {lm : Nat → Nat → Int64} (l1 : Int32) (l2 : Int32) (l3 : Int32) (c0 : zeInb l3 6 = true) : zeRun 153 15 [some (.ref 16), some (.int l1), some (.int l2), some (.int l3)] [] (zk B im lm) = if (im 33 (Int32.toNatClampNeg l3)) ≤ l1 then zeRun 153 31 [some (.ref 16), some (.int l1), some (.int l2), some (.int l3)] [] (zk B im lm) else zeRun 153 28 [some (.ref 16), some (.int l1), some (.int l2), some (.int l3)] [] (zk B im lm) := ze_if (ok := (zeInb l3 6 && true)) rfl 7 rfl (zeA2 c0 rfl)
theorem d_153_31 {B : zeB} {im : Nat → Nat → Int32} {lm : Nat → Nat → Int64} (l1 : Int32) (l2 : Int32) (l3 : Int32)  : zeRun 153 31 [some (.ref 16), some (.int l1), some (.int l2), some (.int l3)] [] (zk B im lm) = zeRun 153 4 [some (.ref 16), some (.int l1), some (.int l2), some (.int (l3 + 1))] [] (zk B im lm) := ze_go (ok := true) rfl 2 rfl rfl
theorem d_153_28 {B : zeB} {im : Nat → Nat → Int32} {lm : Nat → Nat → Int64} (l1 : Int32) (l2 : Int32) (l3 : Int32)  : zeRun 153 28 [some (.ref 16), some (.int l1), some (.int l2), some (.int l3)] [] (zk B im lm) = zeRun 153 4 [some (.ref 16), some (.int l1), some (.int (l2 + 1)), some (.int (l3 + 1))] [] (zk B im lm) := ze_go (ok := true) rfl 3 rfl rfl
def F_153_4  : Nat → Int32 → Int32 → Int32 → zI → zJ → zR
  | 0, _, _, _, _, _ => none
  | n + 1, l1, l2, l3, im, lm =>
    if (im 17 1) ≤ l3 then
      some (l2, im, lm)
    else
      zCk (zeInb l3 6) <|
      F_153_4  n l1 (if (im 33 (Int32.toNatClampNeg l3)) ≤ l1 then l2 else (l2 + 1)) (l3 + 1) im lm
theorem F_153_4_ok {B : zeB} : ∀ (n : Nat) (l1 : Int32) (l2 : Int32) (l3 : Int32)  (im : zI) (lm : zJ), zL B 1 (F_153_4  n l1 l2 l3 im lm) (zeRun 153 4 [some (.ref 16), some (.int l1), some (.int l2), some (.int l3)] [] (zk B im lm)) := by
  intro n
  induction n with
  | zero => intros; exact zL_none
  | succ n ih =>
    intro l1 l2 l3 im lm
    unfold F_153_4
    refine zL_if (d_153_4 _ _ _) (fun h => ?_) (fun h => ?_)
    · skip
      exact zL_ret (d_153_37 _ _ _ _)
    · skip
      refine zL_ck fun c1 => ?_
      refine zL_ifm (d_153_15 _ _ _ c1) (fun h => ?_) (fun h => ?_)
      · repeat rw [if_pos h]
        refine zL_eq (d_153_31 _ _ _) ?_
        exact ih _ _ _ _ _
      · repeat rw [if_neg h]
        refine zL_eq (d_153_28 _ _ _) ?_
        exact ih _ _ _ _ _
def m_153 (l1 : Int32) (im : zI) (lm : zJ) : zR :=
    F_153_4  2000 l1 0 0 im lm
theorem m_153_ok {B : zeB} (l1 : Int32) (im : zI) (lm : zJ) : zL B 1 (m_153 l1 im lm) (zeRun 153 0 [some (.ref 16), some (.int l1), none, none] [] (zk B im lm)) := by
  unfold m_153
  refine zL_eq (d_153_0 _ _ _) ?_
  exact F_153_4_ok  _ _ _ _ _ _
/-! X4_isAhead -/
theorem d_154_0 {B : zeB} {im : Nat → Nat → Int32} {lm : Nat → Nat → Int64} (l1 : Int32) (l2 : Int32) (c0 : zeInb l1 6 = true) (c1 : zeInb l2 6 = true) : zeRun 154 0 [some (.ref 32), some (.int l1), some (.int l2)] [] (zk B im lm) = if (im 33 (Int32.toNatClampNeg l1)) = (im 33 (Int32.toNatClampNeg l2)) then zeRun 154 36 [some (.ref 32), some (.int l1), some (.int l2)] [] (zk B im lm) else zeRun 154 15 [some (.ref 32), some (.int l1), some (.int l2)] [] (zk B im lm) := ze_if (ok := (zeInb l2 6 && (zeInb l1 6 && true))) rfl 9 rfl (zeA2 c1 (zeA2 c0 rfl))
theorem d_154_36 {B : zeB} {im : Nat → Nat → Int32} {lm : Nat → Nat → Int64} (l1 : Int32) (l2 : Int32) (c0 : zeInb l1 6 = true) (c1 : zeInb l2 6 = true) : zeRun 154 36 [some (.ref 32), some (.int l1), some (.int l2)] [] (zk B im lm) = if (im 34 (Int32.toNatClampNeg l1)) = (im 34 (Int32.toNatClampNeg l2)) then zeRun 154 72 [some (.ref 32), some (.int l1), some (.int l2)] [] (zk B im lm) else zeRun 154 51 [some (.ref 32), some (.int l1), some (.int l2)] [] (zk B im lm) := ze_if (ok := (zeInb l2 6 && (zeInb l1 6 && true))) rfl 9 rfl (zeA2 c1 (zeA2 c0 rfl))
theorem d_154_72 {B : zeB} {im : Nat → Nat → Int32} {lm : Nat → Nat → Int64} (l1 : Int32) (l2 : Int32) (c0 : zeInb l1 6 = true) (c1 : zeInb l2 6 = true) : zeRun 154 72 [some (.ref 32), some (.int l1), some (.int l2)] [] (zk B im lm) = if (im 35 (Int32.toNatClampNeg l1)) = (im 35 (Int32.toNatClampNeg l2)) then zeRun 154 108 [some (.ref 32), some (.int l1), some (.int l2)] [] (zk B im lm) else zeRun 154 87 [some (.ref 32), some (.int l1), some (.int l2)] [] (zk B im lm) := ze_if (ok := (zeInb l2 6 && (zeInb l1 6 && true))) rfl 9 rfl (zeA2 c1 (zeA2 c0 rfl))
theorem d_154_108 {B : zeB} {im : Nat → Nat → Int32} {lm : Nat → Nat → Int64} (o0 : Option Value) (l1 : Int32) (l2 : Int32)  : zeRun 154 108 [o0, some (.int l1), some (.int l2)] [] (zk B im lm) = if l2 ≤ l1 then zeRun 154 117 [o0, some (.int l1), some (.int l2)] [] (zk B im lm) else zeRun 154 113 [o0, some (.int l1), some (.int l2)] [] (zk B im lm) := ze_if (ok := true) rfl 3 rfl rfl
theorem d_154_117 {B : zeB} {im : Nat → Nat → Int32} {lm : Nat → Nat → Int64} (o0 : Option Value) (o1 : Option Value) (o2 : Option Value)  : zeRun 154 117 [o0, o1, o2] [] (zk B im lm) = some (some (.int 0), (zk B im lm)) := ze_ret (ok := true) rfl 2 rfl rfl
theorem d_154_113 {B : zeB} {im : Nat → Nat → Int32} {lm : Nat → Nat → Int64} (o0 : Option Value) (o1 : Option Value) (o2 : Option Value)  : zeRun 154 113 [o0, o1, o2] [] (zk B im lm) = some (some (.int 1), (zk B im lm)) := ze_ret (ok := true) rfl 3 rfl rfl
theorem d_154_87 {B : zeB} {im : Nat → Nat → Int32} {lm : Nat → Nat → Int64} (l1 : Int32) (l2 : Int32) (c0 : zeInb l1 6 = true) (c1 : zeInb l2 6 = true) : zeRun 154 87 [some (.ref 32), some (.int l1), some (.int l2)] [] (zk B im lm) = if (im 35 (Int32.toNatClampNeg l2)) ≤ (im 35 (Int32.toNatClampNeg l1)) then zeRun 154 106 [some (.ref 32), some (.int l1), some (.int l2)] [] (zk B im lm) else zeRun 154 102 [some (.ref 32), some (.int l1), some (.int l2)] [] (zk B im lm) := ze_if (ok := (zeInb l2 6 && (zeInb l1 6 && true))) rfl 9 rfl (zeA2 c1 (zeA2 c0 rfl))
theorem d_154_106 {B : zeB} {im : Nat → Nat → Int32} {lm : Nat → Nat → Int64} (o0 : Option Value) (o1 : Option Value) (o2 : Option Value)  : zeRun 154 106 [o0, o1, o2] [] (zk B im lm) = some (some (.int 0), (zk B im lm)) := ze_ret (ok := true) rfl 2 rfl rfl
theorem d_154_102 {B : zeB} {im : Nat → Nat → Int32} {lm : Nat → Nat → Int64} (o0 : Option Value) (o1 : Option Value) (o2 : Option Value)  : zeRun 154 102 [o0, o1, o2] [] (zk B im lm) = some (some (.int 1), (zk B im lm)) := ze_ret (ok := true) rfl 3 rfl rfl
theorem d_154_51 {B : zeB} {im : Nat → Nat → Int32} {lm : Nat → Nat → Int64} (l1 : Int32) (l2 : Int32) (c0 : zeInb l1 6 = true) (c1 : zeInb l2 6 = true) : zeRun 154 51 [some (.ref 32), some (.int l1), some (.int l2)] [] (zk B im lm) = if (im 34 (Int32.toNatClampNeg l1)) ≤ (im 34 (Int32.toNatClampNeg l2)) then zeRun 154 70 [some (.ref 32), some (.int l1), some (.int l2)] [] (zk B im lm) else zeRun 154 66 [some (.ref 32), some (.int l1), some (.int l2)] [] (zk B im lm) := ze_if (ok := (zeInb l2 6 && (zeInb l1 6 && true))) rfl 9 rfl (zeA2 c1 (zeA2 c0 rfl))
theorem d_154_70 {B : zeB} {im : Nat → Nat → Int32} {lm : Nat → Nat → Int64} (o0 : Option Value) (o1 : Option Value) (o2 : Option Value)  : zeRun 154 70 [o0, o1, o2] [] (zk B im lm) = some (some (.int 0), (zk B im lm)) := ze_ret (ok := true) rfl 2 rfl rfl
theorem d_154_66 {B : zeB} {im : Nat → Nat → Int32} {lm : Nat → Nat → Int64} (o0 : Option Value) (o1 : Option Value) (o2 : Option Value)  : zeRun 154 66 [o0, o1, o2] [] (zk B im lm) = some (some (.int 1), (zk B im lm)) := ze_ret (ok := true) rfl 3 rfl rfl
theorem d_154_15 {B : zeB} {im : Nat → Nat → Int32} {lm : Nat → Nat → Int64} (l1 : Int32) (l2 : Int32) (c0 : zeInb l1 6 = true) (c1 : zeInb l2 6 = true) : zeRun 154 15 [some (.ref 32), some (.int l1), some (.int l2)] [] (zk B im lm) = if (im 33 (Int32.toNatClampNeg l1)) ≤ (im 33 (Int32.toNatClampNeg l2)) then zeRun 154 34 [some (.ref 32), some (.int l1), some (.int l2)] [] (zk B im lm) else zeRun 154 30 [some (.ref 32), some (.int l1), some (.int l2)] [] (zk B im lm) := ze_if (ok := (zeInb l2 6 && (zeInb l1 6 && true))) rfl 9 rfl (zeA2 c1 (zeA2 c0 rfl))
theorem d_154_34 {B : zeB} {im : Nat → Nat → Int32} {lm : Nat → Nat → Int64} (o0 : Option Value) (o1 : Option Value) (o2 : Option Value)  : zeRun 154 34 [o0, o1, o2] [] (zk B im lm) = some (some (.int 0), (zk B im lm)) := ze_ret (ok := true) rfl 2 rfl rfl
theorem d_154_30 {B : zeB} {im : Nat → Nat → Int32} {lm : Nat → Nat → Int64} (o0 : Option Value) (o1 : Option Value) (o2 : Option Value)  : zeRun 154 30 [o0, o1, o2] [] (zk B im lm) = some (some (.int 1), (zk B im lm)) := ze_ret (ok := true) rfl 3 rfl rfl
def m_154 (l1 : Int32) (l2 : Int32) (im : zI) (lm : zJ) : zR :=
    zCk (zeInb l1 6) <|
    zCk (zeInb l2 6) <|
    some (if (im 33 (Int32.toNatClampNeg l1)) = (im 33 (Int32.toNatClampNeg l2)) then if (im 34 (Int32.toNatClampNeg l1)) = (im 34 (Int32.toNatClampNeg l2)) then if (im 35 (Int32.toNatClampNeg l1)) = (im 35 (Int32.toNatClampNeg l2)) then if l2 ≤ l1 then 0 else 1 else if (im 35 (Int32.toNatClampNeg l2)) ≤ (im 35 (Int32.toNatClampNeg l1)) then 0 else 1 else if (im 34 (Int32.toNatClampNeg l1)) ≤ (im 34 (Int32.toNatClampNeg l2)) then 0 else 1 else if (im 33 (Int32.toNatClampNeg l1)) ≤ (im 33 (Int32.toNatClampNeg l2)) then 0 else 1, im, lm)
theorem m_154_ok {B : zeB} (l1 : Int32) (l2 : Int32) (im : zI) (lm : zJ) : zL B 1 (m_154 l1 l2 im lm) (zeRun 154 0 [some (.ref 32), some (.int l1), some (.int l2)] [] (zk B im lm)) := by
  unfold m_154
  refine zL_ck fun c1 => ?_
  refine zL_ck fun c2 => ?_
  refine zL_ifm (d_154_0 _ _ c1 c2) (fun h => ?_) (fun h => ?_)
  · repeat rw [if_pos h]
    refine zL_ifm (d_154_36 _ _ c1 c2) (fun h => ?_) (fun h => ?_)
    · repeat rw [if_pos h]
      refine zL_ifm (d_154_72 _ _ c1 c2) (fun h => ?_) (fun h => ?_)
      · repeat rw [if_pos h]
        refine zL_ifm (d_154_108 _ _ _) (fun h => ?_) (fun h => ?_)
        · repeat rw [if_pos h]
          exact zL_ret (d_154_117 _ _ _)
        · repeat rw [if_neg h]
          exact zL_ret (d_154_113 _ _ _)
      · repeat rw [if_neg h]
        refine zL_ifm (d_154_87 _ _ c1 c2) (fun h => ?_) (fun h => ?_)
        · repeat rw [if_pos h]
          exact zL_ret (d_154_106 _ _ _)
        · repeat rw [if_neg h]
          exact zL_ret (d_154_102 _ _ _)
    · repeat rw [if_neg h]
      refine zL_ifm (d_154_51 _ _ c1 c2) (fun h => ?_) (fun h => ?_)
      · repeat rw [if_pos h]
        exact zL_ret (d_154_70 _ _ _)
      · repeat rw [if_neg h]
        exact zL_ret (d_154_66 _ _ _)
  · repeat rw [if_neg h]
    refine zL_ifm (d_154_15 _ _ c1 c2) (fun h => ?_) (fun h => ?_)
    · repeat rw [if_pos h]
      exact zL_ret (d_154_34 _ _ _)
    · repeat rw [if_neg h]
      exact zL_ret (d_154_30 _ _ _)
/-! X7_placeOf -/
theorem d_155_0 {B : zeB} {im : Nat → Nat → Int32} {lm : Nat → Nat → Int64} (l1 : Int32) (o2 : Option Value) (o3 : Option Value)  : zeRun 155 0 [some (.ref 16), some (.int l1), o2, o3] [] (zk B im lm) = zeRun 155 4 [some (.ref 16), some (.int l1), some (.int 0), some (.int 0)] [] (zk B im lm) := ze_go (ok := true) rfl 4 rfl rfl
theorem d_155_4 {B : zeB} {im : Nat → Nat → Int32} {lm : Nat → Nat → Int64} (l1 : Int32) (l2 : Int32) (l3 : Int32)  : zeRun 155 4 [some (.ref 16), some (.int l1), some (.int l2), some (.int l3)] [] (zk B im lm) = if (im 17 1) ≤ l3 then zeRun 155 36 [some (.ref 16), some (.int l1), some (.int l2), some (.int l3)] [] (zk B im lm) else zeRun 155 15 [some (.ref 16), some (.int l1), some (.int l2), some (.int l3)] [] (zk B im lm) := ze_if (ok := true) rfl 5 rfl rfl
theorem d_155_36 {B : zeB} {im : Nat → Nat → Int32} {lm : Nat → Nat → Int64} (o0 : Option Value) (o1 : Option Value) (l2 : Int32) (o3 : Option Value)  : zeRun 155 36 [o0, o1, some (.int l2), o3] [] (zk B im lm) = some (some (.int l2), (zk B im lm)) := ze_ret (ok := true) rfl 2 rfl rfl
theorem d_155_15 {B : zeB} {im : Nat → Nat → Int32} {lm : Nat → Nat → Int64} (l1 : Int32) (l2 : Int32) (l3 : Int32)  : zeRun 155 15 [some (.ref 16), some (.int l1), some (.int l2), some (.int l3)] [] (zk B im lm) = zeBh 155 24 [some (.ref 16), some (.int l1), some (.int l2), some (.int l3)] [] (zeRun 154 0 [some (.ref 32), some (.int l3), some (.int l1)] [] (zk B im lm)) := ze_call (ok := true) rfl 5 rfl rfl rfl
theorem d_155_24 {B : zeB} {im : Nat → Nat → Int32} {lm : Nat → Nat → Int64} (l1 : Int32) (l2 : Int32) (l3 : Int32) (s0 : Int32)  : zeRun 155 24 [some (.ref 16), some (.int l1), some (.int l2), some (.int l3)] [.int s0] (zk B im lm) = if s0 = 0 then zeRun 155 30 [some (.ref 16), some (.int l1), some (.int l2), some (.int l3)] [] (zk B im lm) else zeRun 155 27 [some (.ref 16), some (.int l1), some (.int l2), some (.int l3)] [] (zk B im lm) := ze_if (ok := true) rfl 1 rfl rfl
theorem d_155_30 {B : zeB} {im : Nat → Nat → Int32} {lm : Nat → Nat → Int64} (l1 : Int32) (l2 : Int32) (l3 : Int32)  : zeRun 155 30 [some (.ref 16), some (.int l1), some (.int l2), some (.int l3)] [] (zk B im lm) = zeRun 155 4 [some (.ref 16), some (.int l1), some (.int l2), some (.int (l3 + 1))] [] (zk B im lm) := ze_go (ok := true) rfl 2 rfl rfl
theorem d_155_27 {B : zeB} {im : Nat → Nat → Int32} {lm : Nat → Nat → Int64} (l1 : Int32) (l2 : Int32) (l3 : Int32)  : zeRun 155 27 [some (.ref 16), some (.int l1), some (.int l2), some (.int l3)] [] (zk B im lm) = zeRun 155 4 [some (.ref 16), some (.int l1), some (.int (l2 + 1)), some (.int (l3 + 1))] [] (zk B im lm) := ze_go (ok := true) rfl 3 rfl rfl
def F_155_4  : Nat → Int32 → Int32 → Int32 → zI → zJ → zR
  | 0, _, _, _, _, _ => none
  | n + 1, l1, l2, l3, im, lm =>
    if (im 17 1) ≤ l3 then
      some (l2, im, lm)
    else
      zBd (m_154 l3 l1 im lm) fun v1 im1 lm1 =>
      F_155_4  n l1 (if v1 = 0 then l2 else (l2 + 1)) (l3 + 1) im1 lm1
theorem F_155_4_ok {B : zeB} : ∀ (n : Nat) (l1 : Int32) (l2 : Int32) (l3 : Int32)  (im : zI) (lm : zJ), zL B 1 (F_155_4  n l1 l2 l3 im lm) (zeRun 155 4 [some (.ref 16), some (.int l1), some (.int l2), some (.int l3)] [] (zk B im lm)) := by
  intro n
  induction n with
  | zero => intros; exact zL_none
  | succ n ih =>
    intro l1 l2 l3 im lm
    unfold F_155_4
    refine zL_if (d_155_4 _ _ _) (fun h => ?_) (fun h => ?_)
    · skip
      exact zL_ret (d_155_36 _ _ _ _)
    · skip
      refine zL_bd (d_155_15 _ _ _) (m_154_ok _ _ _ _) fun v1 im1 lm1 => ?_
      refine zL_ifm (d_155_24 _ _ _ _) (fun h => ?_) (fun h => ?_)
      · repeat rw [if_pos h]
        refine zL_eq (d_155_30 _ _ _) ?_
        exact ih _ _ _ _ _
      · repeat rw [if_neg h]
        refine zL_eq (d_155_27 _ _ _) ?_
        exact ih _ _ _ _ _
def m_155 (l1 : Int32) (im : zI) (lm : zJ) : zR :=
    F_155_4  2000 l1 0 0 im lm
theorem m_155_ok {B : zeB} (l1 : Int32) (im : zI) (lm : zJ) : zL B 1 (m_155 l1 im lm) (zeRun 155 0 [some (.ref 16), some (.int l1), none, none] [] (zk B im lm)) := by
  unfold m_155
  refine zL_eq (d_155_0 _ _ _) ?_
  exact F_155_4_ok  _ _ _ _ _ _
/-! X7_player -/
theorem d_156_0 {B : zeB} {im : Nat → Nat → Int32} {lm : Nat → Nat → Int64} (l1 : Int32) (l2 : Int32)  : zeRun 156 0 [some (.ref 16), some (.int l1), some (.int l2)] [] (zk B im lm) = zeBh 156 5 [some (.ref 16), some (.int l1), some (.int l2)] [] (zeRun 38 0 [some (.ref 16), some (.int l1)] [] (zk B im lm)) := ze_call (ok := true) rfl 3 rfl rfl rfl
theorem d_156_5 {B : zeB} {im : Nat → Nat → Int32} {lm : Nat → Nat → Int64} (l1 : Int32) (l2 : Int32) (s0 : Int32)  : zeRun 156 5 [some (.ref 16), some (.int l1), some (.int l2)] [.int s0] (zk B im lm) = if s0 = 0 then zeRun 156 8 [some (.ref 16), some (.int l1), some (.int l2)] [] (zk B im lm) else zeRun 156 11 [some (.ref 16), some (.int l1), some (.int l2)] [] (zk B im lm) := ze_if (ok := true) rfl 1 rfl rfl
theorem d_156_8 {B : zeB} {im : Nat → Nat → Int32} {lm : Nat → Nat → Int64} (o0 : Option Value) (o1 : Option Value) (o2 : Option Value)  : zeRun 156 8 [o0, o1, o2] [] (zk B im lm) = some (some (.int (-10000001)), (zk B im lm)) := ze_ret (ok := true) rfl 2 rfl rfl
theorem d_156_11 {B : zeB} {im : Nat → Nat → Int32} {lm : Nat → Nat → Int64} (l1 : Int32) (l2 : Int32)  : zeRun 156 11 [some (.ref 16), some (.int l1), some (.int l2)] [] (zk B im lm) = zeRun 156 (zeSw l2 164 [(0, 60), (1, 70), (2, 80), (3, 90), (4, 106), (5, 112), (6, 141), (7, 154)]) [some (.ref 16), some (.int l1), some (.int l2)] [] (zk B im lm) := ze_go (ok := true) rfl 2 rfl rfl
theorem d_156_60 {B : zeB} {im : Nat → Nat → Int32} {lm : Nat → Nat → Int64} (l1 : Int32) (o2 : Option Value) (c0 : zeInb l1 6 = true) : zeRun 156 60 [some (.ref 16), some (.int l1), o2] [] (zk B im lm) = some (some (.int (im 33 (Int32.toNatClampNeg l1))), (zk B im lm)) := ze_ret (ok := (zeInb l1 6 && true)) rfl 6 rfl (zeA2 c0 rfl)
theorem d_156_70 {B : zeB} {im : Nat → Nat → Int32} {lm : Nat → Nat → Int64} (l1 : Int32) (o2 : Option Value) (c0 : zeInb l1 6 = true) : zeRun 156 70 [some (.ref 16), some (.int l1), o2] [] (zk B im lm) = some (some (.int (im 34 (Int32.toNatClampNeg l1))), (zk B im lm)) := ze_ret (ok := (zeInb l1 6 && true)) rfl 6 rfl (zeA2 c0 rfl)
theorem d_156_80 {B : zeB} {im : Nat → Nat → Int32} {lm : Nat → Nat → Int64} (l1 : Int32) (o2 : Option Value) (c0 : zeInb l1 6 = true) : zeRun 156 80 [some (.ref 16), some (.int l1), o2] [] (zk B im lm) = some (some (.int (im 35 (Int32.toNatClampNeg l1))), (zk B im lm)) := ze_ret (ok := (zeInb l1 6 && true)) rfl 6 rfl (zeA2 c0 rfl)
theorem d_156_90 {B : zeB} {im : Nat → Nat → Int32} {lm : Nat → Nat → Int64} (l1 : Int32) (o2 : Option Value) (c0 : zeInb l1 6 = true) : zeRun 156 90 [some (.ref 16), some (.int l1), o2] [] (zk B im lm) = zeBh 156 104 [some (.ref 16), some (.int l1), o2] [.int 1] (zeRun 153 0 [some (.ref 16), some (.int (im 33 (Int32.toNatClampNeg l1))), none, none] [] (zk B im lm)) := ze_call (ok := (zeInb l1 6 && true)) rfl 8 rfl rfl (zeA2 c0 rfl)
theorem d_156_104 {B : zeB} {im : Nat → Nat → Int32} {lm : Nat → Nat → Int64} (o0 : Option Value) (o1 : Option Value) (o2 : Option Value) (s0 : Int32) (s1 : Int32)  : zeRun 156 104 [o0, o1, o2] [.int s1, .int s0] (zk B im lm) = some (some (.int (s0 + s1)), (zk B im lm)) := ze_ret (ok := true) rfl 2 rfl rfl
theorem d_156_106 {B : zeB} {im : Nat → Nat → Int32} {lm : Nat → Nat → Int64} (l1 : Int32) (o2 : Option Value)  : zeRun 156 106 [some (.ref 16), some (.int l1), o2] [] (zk B im lm) = zeBh 156 111 [some (.ref 16), some (.int l1), o2] [] (zeRun 155 0 [some (.ref 16), some (.int l1), none, none] [] (zk B im lm)) := ze_call (ok := true) rfl 3 rfl rfl rfl
theorem d_156_111 {B : zeB} {im : Nat → Nat → Int32} {lm : Nat → Nat → Int64} (o0 : Option Value) (o1 : Option Value) (o2 : Option Value) (s0 : Int32)  : zeRun 156 111 [o0, o1, o2] [.int s0] (zk B im lm) = some (some (.int s0), (zk B im lm)) := ze_ret (ok := true) rfl 1 rfl rfl
theorem d_156_112 {B : zeB} {im : Nat → Nat → Int32} {lm : Nat → Nat → Int64} (l1 : Int32) (o2 : Option Value)  : zeRun 156 112 [some (.ref 16), some (.int l1), o2] [] (zk B im lm) = if (im 17 0) = 1 then zeRun 156 123 [some (.ref 16), some (.int l1), o2] [] (zk B im lm) else zeRun 156 138 [some (.ref 16), some (.int l1), o2] [] (zk B im lm) := ze_if (ok := true) rfl 5 rfl rfl
theorem d_156_123 {B : zeB} {im : Nat → Nat → Int32} {lm : Nat → Nat → Int64} (l1 : Int32) (o2 : Option Value) (c0 : zeInb l1 6 = true) : zeRun 156 123 [some (.ref 16), some (.int l1), o2] [] (zk B im lm) = some (some (.int (im 20 (Int32.toNatClampNeg l1))), (zk B im lm)) := ze_ret (ok := (zeInb l1 6 && true)) rfl 8 rfl (zeA2 c0 rfl)
theorem d_156_138 {B : zeB} {im : Nat → Nat → Int32} {lm : Nat → Nat → Int64} (o0 : Option Value) (o1 : Option Value) (o2 : Option Value)  : zeRun 156 138 [o0, o1, o2] [] (zk B im lm) = some (some (.int (-10000005)), (zk B im lm)) := ze_ret (ok := true) rfl 2 rfl rfl
theorem d_156_141 {B : zeB} {im : Nat → Nat → Int32} {lm : Nat → Nat → Int64} (l1 : Int32) (o2 : Option Value) (c0 : zeInb l1 6 = true) : zeRun 156 141 [some (.ref 16), some (.int l1), o2] [] (zk B im lm) = some (some (.int (im 25 (Int32.toNatClampNeg l1))), (zk B im lm)) := ze_ret (ok := (zeInb l1 6 && true)) rfl 7 rfl (zeA2 c0 rfl)
theorem d_156_154 {B : zeB} {im : Nat → Nat → Int32} {lm : Nat → Nat → Int64} (l1 : Int32) (o2 : Option Value) (c0 : zeInb l1 6 = true) : zeRun 156 154 [some (.ref 16), some (.int l1), o2] [] (zk B im lm) = some (some (.int (im 36 (Int32.toNatClampNeg l1))), (zk B im lm)) := ze_ret (ok := (zeInb l1 6 && true)) rfl 6 rfl (zeA2 c0 rfl)
theorem d_156_164 {B : zeB} {im : Nat → Nat → Int32} {lm : Nat → Nat → Int64} (o0 : Option Value) (o1 : Option Value) (o2 : Option Value)  : zeRun 156 164 [o0, o1, o2] [] (zk B im lm) = some (some (.int (-10000002)), (zk B im lm)) := ze_ret (ok := true) rfl 2 rfl rfl
def m_156 (l1 : Int32) (l2 : Int32) (im : zI) (lm : zJ) : zR :=
    if (if l1 < 0 then 0 else if (im 17 1) ≤ l1 then 0 else 1 : Int32) = 0 then
      some ((-10000001), im, lm)
    else
      if l2 = 0 then
        zCk (zeInb l1 6) <|
        some ((im 33 (Int32.toNatClampNeg l1)), im, lm)
      else
        if l2 = 1 then
          zCk (zeInb l1 6) <|
          some ((im 34 (Int32.toNatClampNeg l1)), im, lm)
        else
          if l2 = 2 then
            zCk (zeInb l1 6) <|
            some ((im 35 (Int32.toNatClampNeg l1)), im, lm)
          else
            if l2 = 3 then
              zCk (zeInb l1 6) <|
              zBd (m_153 (im 33 (Int32.toNatClampNeg l1)) im lm) fun v2 im2 lm2 =>
              some ((1 + v2), im2, lm2)
            else
              if l2 = 4 then
                zBd (m_155 l1 im lm) fun v3 im3 lm3 =>
                some (v3, im3, lm3)
              else
                if l2 = 5 then
                  zCk (if (im 17 0) = 1 then zeInb l1 6 else true) <|
                  some (if (im 17 0) = 1 then (im 20 (Int32.toNatClampNeg l1)) else (-10000005), im, lm)
                else
                  if l2 = 6 then
                    zCk (zeInb l1 6) <|
                    some ((im 25 (Int32.toNatClampNeg l1)), im, lm)
                  else
                    if l2 = 7 then
                      zCk (zeInb l1 6) <|
                      some ((im 36 (Int32.toNatClampNeg l1)), im, lm)
                    else
                      some ((-10000002), im, lm)
theorem m_156_ok {B : zeB} (l1 : Int32) (l2 : Int32) (im : zI) (lm : zJ) : zL B 1 (m_156 l1 l2 im lm) (zeRun 156 0 [some (.ref 16), some (.int l1), some (.int l2)] [] (zk B im lm)) := by
  unfold m_156
  refine zL_bdp (e := (if l1 < 0 then 0 else if (im 17 1) ≤ l1 then 0 else 1 : Int32)) (d_156_0 _ _) (m_38_ok _ _ _) ?_
  refine zL_if (d_156_5 _ _ _) (fun h => ?_) (fun h => ?_)
  · skip
    exact zL_ret (d_156_8 _ _ _)
  · skip
    refine zL_eq (d_156_11 _ _) ?_
    refine zL_sw (fun h => ?_) (fun h => ?_)
    · skip
      refine zL_ck fun c1 => ?_
      exact zL_ret (d_156_60 _ _ c1)
    refine zL_sw (fun h => ?_) (fun h => ?_)
    · skip
      refine zL_ck fun c2 => ?_
      exact zL_ret (d_156_70 _ _ c2)
    refine zL_sw (fun h => ?_) (fun h => ?_)
    · skip
      refine zL_ck fun c3 => ?_
      exact zL_ret (d_156_80 _ _ c3)
    refine zL_sw (fun h => ?_) (fun h => ?_)
    · skip
      refine zL_ck fun c4 => ?_
      refine zL_bd (d_156_90 _ _ c4) (m_153_ok _ _ _) fun v2 im2 lm2 => ?_
      exact zL_ret (d_156_104 _ _ _ _ _)
    refine zL_sw (fun h => ?_) (fun h => ?_)
    · skip
      refine zL_bd (d_156_106 _ _) (m_155_ok _ _ _) fun v3 im3 lm3 => ?_
      exact zL_ret (d_156_111 _ _ _ _)
    refine zL_sw (fun h => ?_) (fun h => ?_)
    · skip
      refine zL_ifm (d_156_112 _ _) (fun h => ?_) (fun h => ?_)
      · repeat rw [if_pos h]
        refine zL_ck fun c5 => ?_
        exact zL_ret (d_156_123 _ _ c5)
      · repeat rw [if_neg h]
        refine zL_ckt ?_
        exact zL_ret (d_156_138 _ _ _)
    refine zL_sw (fun h => ?_) (fun h => ?_)
    · skip
      refine zL_ck fun c6 => ?_
      exact zL_ret (d_156_141 _ _ c6)
    refine zL_sw (fun h => ?_) (fun h => ?_)
    · skip
      refine zL_ck fun c7 => ?_
      exact zL_ret (d_156_154 _ _ c7)
    refine zL_swd ?_
    exact zL_ret (d_156_164 _ _ _)
/-! X8_rank -/
theorem d_157_0 {B : zeB} {im : Nat → Nat → Int32} {lm : Nat → Nat → Int64} (l1 : Int32) (o2 : Option Value) (o3 : Option Value)  : zeRun 157 0 [some (.ref 170), some (.int l1), o2, o3] [] (zk B im lm) = zeRun 157 4 [some (.ref 170), some (.int l1), some (.int 1), some (.int 0)] [] (zk B im lm) := ze_go (ok := true) rfl 4 rfl rfl
theorem d_157_4 {B : zeB} {im : Nat → Nat → Int32} {lm : Nat → Nat → Int64} (l1 : Int32) (l2 : Int32) (l3 : Int32)  : zeRun 157 4 [some (.ref 170), some (.int l1), some (.int l2), some (.int l3)] [] (zk B im lm) = if (im 171 1) ≤ l3 then zeRun 157 43 [some (.ref 170), some (.int l1), some (.int l2), some (.int l3)] [] (zk B im lm) else zeRun 157 14 [some (.ref 170), some (.int l1), some (.int l2), some (.int l3)] [] (zk B im lm) := ze_if (ok := true) rfl 6 rfl rfl
theorem d_157_43 {B : zeB} {im : Nat → Nat → Int32} {lm : Nat → Nat → Int64} (o0 : Option Value) (o1 : Option Value) (l2 : Int32) (o3 : Option Value)  : zeRun 157 43 [o0, o1, some (.int l2), o3] [] (zk B im lm) = some (some (.int l2), (zk B im lm)) := ze_ret (ok := true) rfl 2 rfl rfl
theorem d_157_14 {B : zeB} {im : Nat → Nat → Int32} {lm : Nat → Nat → Int64} (l1 : Int32) (l2 : Int32) (l3 : Int32) (c0 : zeInb l3 6 = true) (c1 : zeInb l1 6 = true) : zeRun 157 14 [some (.ref 170), some (.int l1), some (.int l2), some (.int l3)] [] (zk B im lm) = if (im 175 (Int32.toNatClampNeg l3)) ≤ (im 175 (Int32.toNatClampNeg l1)) then zeRun 157 34 [some (.ref 170), some (.int l1), some (.int l2), some (.int l3)] [.int l2] (zk B im lm) else zeRun 157 30 [some (.ref 170), some (.int l1), some (.int l2), some (.int l3)] [.int l2] (zk B im lm) := ze_if (ok := (zeInb l1 6 && (zeInb l3 6 && true))) rfl 10 rfl (zeA2 c1 (zeA2 c0 rfl))
theorem d_157_34 {B : zeB} {im : Nat → Nat → Int32} {lm : Nat → Nat → Int64} (l1 : Int32) (o2 : Option Value) (l3 : Int32) (s0 : Int32)  : zeRun 157 34 [some (.ref 170), some (.int l1), o2, some (.int l3)] [.int s0] (zk B im lm) = zeRun 157 4 [some (.ref 170), some (.int l1), some (.int (s0 + 0)), some (.int (l3 + 1))] [] (zk B im lm) := ze_go (ok := true) rfl 5 rfl rfl
theorem d_157_30 {B : zeB} {im : Nat → Nat → Int32} {lm : Nat → Nat → Int64} (l1 : Int32) (o2 : Option Value) (l3 : Int32) (s0 : Int32)  : zeRun 157 30 [some (.ref 170), some (.int l1), o2, some (.int l3)] [.int s0] (zk B im lm) = zeRun 157 4 [some (.ref 170), some (.int l1), some (.int (s0 + 1)), some (.int (l3 + 1))] [] (zk B im lm) := ze_go (ok := true) rfl 6 rfl rfl
def F_157_4  : Nat → Int32 → Int32 → Int32 → zI → zJ → zR
  | 0, _, _, _, _, _ => none
  | n + 1, l1, l2, l3, im, lm =>
    if (im 171 1) ≤ l3 then
      some (l2, im, lm)
    else
      zCk (zeInb l3 6) <|
      zCk (zeInb l1 6) <|
      F_157_4  n l1 (if (im 175 (Int32.toNatClampNeg l3)) ≤ (im 175 (Int32.toNatClampNeg l1)) then (l2 + 0) else (l2 + 1)) (l3 + 1) im lm
theorem F_157_4_ok {B : zeB} : ∀ (n : Nat) (l1 : Int32) (l2 : Int32) (l3 : Int32)  (im : zI) (lm : zJ), zL B 1 (F_157_4  n l1 l2 l3 im lm) (zeRun 157 4 [some (.ref 170), some (.int l1), some (.int l2), some (.int l3)] [] (zk B im lm)) := by
  intro n
  induction n with
  | zero => intros; exact zL_none
  | succ n ih =>
    intro l1 l2 l3 im lm
    unfold F_157_4
    refine zL_if (d_157_4 _ _ _) (fun h => ?_) (fun h => ?_)
    · skip
      exact zL_ret (d_157_43 _ _ _ _)
    · skip
      refine zL_ck fun c1 => ?_
      refine zL_ck fun c2 => ?_
      refine zL_ifm (d_157_14 _ _ _ c1 c2) (fun h => ?_) (fun h => ?_)
      · repeat rw [if_pos h]
        refine zL_eq (d_157_34 _ _ _ _) ?_
        exact ih _ _ _ _ _
      · repeat rw [if_neg h]
        refine zL_eq (d_157_30 _ _ _ _) ?_
        exact ih _ _ _ _ _
def m_157 (l1 : Int32) (im : zI) (lm : zJ) : zR :=
    F_157_4  2000 l1 1 0 im lm
theorem m_157_ok {B : zeB} (l1 : Int32) (im : zI) (lm : zJ) : zL B 1 (m_157 l1 im lm) (zeRun 157 0 [some (.ref 170), some (.int l1), none, none] [] (zk B im lm)) := by
  unfold m_157
  refine zL_eq (d_157_0 _ _ _) ?_
  exact F_157_4_ok  _ _ _ _ _ _
/-! X8_isBefore -/
theorem d_158_0 {B : zeB} {im : Nat → Nat → Int32} {lm : Nat → Nat → Int64} (l1 : Int32) (l2 : Int32) (c0 : zeInb l1 6 = true) (c1 : zeInb l2 6 = true) : zeRun 158 0 [some (.ref 170), some (.int l1), some (.int l2)] [] (zk B im lm) = if (im 175 (Int32.toNatClampNeg l1)) = (im 175 (Int32.toNatClampNeg l2)) then zeRun 158 36 [some (.ref 170), some (.int l1), some (.int l2)] [] (zk B im lm) else zeRun 158 15 [some (.ref 170), some (.int l1), some (.int l2)] [] (zk B im lm) := ze_if (ok := (zeInb l2 6 && (zeInb l1 6 && true))) rfl 9 rfl (zeA2 c1 (zeA2 c0 rfl))
theorem d_158_36 {B : zeB} {im : Nat → Nat → Int32} {lm : Nat → Nat → Int64} (l1 : Int32) (l2 : Int32) (c0 : zeInb l1 6 = true) (c1 : zeInb l2 6 = true) : zeRun 158 36 [some (.ref 170), some (.int l1), some (.int l2)] [] (zk B im lm) = if (im 179 (Int32.toNatClampNeg l1)) = (im 179 (Int32.toNatClampNeg l2)) then zeRun 158 72 [some (.ref 170), some (.int l1), some (.int l2)] [] (zk B im lm) else zeRun 158 51 [some (.ref 170), some (.int l1), some (.int l2)] [] (zk B im lm) := ze_if (ok := (zeInb l2 6 && (zeInb l1 6 && true))) rfl 9 rfl (zeA2 c1 (zeA2 c0 rfl))
theorem d_158_72 {B : zeB} {im : Nat → Nat → Int32} {lm : Nat → Nat → Int64} (l1 : Int32) (l2 : Int32) (c0 : zeInb l1 6 = true) (c1 : zeInb l2 6 = true) : zeRun 158 72 [some (.ref 170), some (.int l1), some (.int l2)] [] (zk B im lm) = if (im 180 (Int32.toNatClampNeg l1)) = (im 180 (Int32.toNatClampNeg l2)) then zeRun 158 110 [some (.ref 170), some (.int l1), some (.int l2)] [] (zk B im lm) else zeRun 158 87 [some (.ref 170), some (.int l1), some (.int l2)] [] (zk B im lm) := ze_if (ok := (zeInb l2 6 && (zeInb l1 6 && true))) rfl 9 rfl (zeA2 c1 (zeA2 c0 rfl))
theorem d_158_110 {B : zeB} {im : Nat → Nat → Int32} {lm : Nat → Nat → Int64} (o0 : Option Value) (l1 : Int32) (l2 : Int32)  : zeRun 158 110 [o0, some (.int l1), some (.int l2)] [] (zk B im lm) = if l2 ≤ l1 then zeRun 158 119 [o0, some (.int l1), some (.int l2)] [] (zk B im lm) else zeRun 158 115 [o0, some (.int l1), some (.int l2)] [] (zk B im lm) := ze_if (ok := true) rfl 3 rfl rfl
theorem d_158_119 {B : zeB} {im : Nat → Nat → Int32} {lm : Nat → Nat → Int64} (o0 : Option Value) (o1 : Option Value) (o2 : Option Value)  : zeRun 158 119 [o0, o1, o2] [] (zk B im lm) = some (some (.int 0), (zk B im lm)) := ze_ret (ok := true) rfl 2 rfl rfl
theorem d_158_115 {B : zeB} {im : Nat → Nat → Int32} {lm : Nat → Nat → Int64} (o0 : Option Value) (o1 : Option Value) (o2 : Option Value)  : zeRun 158 115 [o0, o1, o2] [] (zk B im lm) = some (some (.int 1), (zk B im lm)) := ze_ret (ok := true) rfl 3 rfl rfl
theorem d_158_87 {B : zeB} {im : Nat → Nat → Int32} {lm : Nat → Nat → Int64} (l1 : Int32) (l2 : Int32) (c0 : zeInb l1 6 = true) (c1 : zeInb l2 6 = true) : zeRun 158 87 [some (.ref 170), some (.int l1), some (.int l2)] [] (zk B im lm) = if (im 180 (Int32.toNatClampNeg l2)) ≤ (im 180 (Int32.toNatClampNeg l1)) then zeRun 158 106 [some (.ref 170), some (.int l1), some (.int l2)] [] (zk B im lm) else zeRun 158 102 [some (.ref 170), some (.int l1), some (.int l2)] [] (zk B im lm) := ze_if (ok := (zeInb l2 6 && (zeInb l1 6 && true))) rfl 9 rfl (zeA2 c1 (zeA2 c0 rfl))
theorem d_158_106 {B : zeB} {im : Nat → Nat → Int32} {lm : Nat → Nat → Int64} (o0 : Option Value) (o1 : Option Value) (o2 : Option Value)  : zeRun 158 106 [o0, o1, o2] [] (zk B im lm) = some (some (.int 0), (zk B im lm)) := ze_ret (ok := true) rfl 3 rfl rfl
theorem d_158_102 {B : zeB} {im : Nat → Nat → Int32} {lm : Nat → Nat → Int64} (o0 : Option Value) (o1 : Option Value) (o2 : Option Value)  : zeRun 158 102 [o0, o1, o2] [] (zk B im lm) = some (some (.int 1), (zk B im lm)) := ze_ret (ok := true) rfl 3 rfl rfl
theorem d_158_51 {B : zeB} {im : Nat → Nat → Int32} {lm : Nat → Nat → Int64} (l1 : Int32) (l2 : Int32) (c0 : zeInb l1 6 = true) (c1 : zeInb l2 6 = true) : zeRun 158 51 [some (.ref 170), some (.int l1), some (.int l2)] [] (zk B im lm) = if (im 179 (Int32.toNatClampNeg l1)) ≤ (im 179 (Int32.toNatClampNeg l2)) then zeRun 158 70 [some (.ref 170), some (.int l1), some (.int l2)] [] (zk B im lm) else zeRun 158 66 [some (.ref 170), some (.int l1), some (.int l2)] [] (zk B im lm) := ze_if (ok := (zeInb l2 6 && (zeInb l1 6 && true))) rfl 9 rfl (zeA2 c1 (zeA2 c0 rfl))
theorem d_158_70 {B : zeB} {im : Nat → Nat → Int32} {lm : Nat → Nat → Int64} (o0 : Option Value) (o1 : Option Value) (o2 : Option Value)  : zeRun 158 70 [o0, o1, o2] [] (zk B im lm) = some (some (.int 0), (zk B im lm)) := ze_ret (ok := true) rfl 2 rfl rfl
theorem d_158_66 {B : zeB} {im : Nat → Nat → Int32} {lm : Nat → Nat → Int64} (o0 : Option Value) (o1 : Option Value) (o2 : Option Value)  : zeRun 158 66 [o0, o1, o2] [] (zk B im lm) = some (some (.int 1), (zk B im lm)) := ze_ret (ok := true) rfl 3 rfl rfl
theorem d_158_15 {B : zeB} {im : Nat → Nat → Int32} {lm : Nat → Nat → Int64} (l1 : Int32) (l2 : Int32) (c0 : zeInb l1 6 = true) (c1 : zeInb l2 6 = true) : zeRun 158 15 [some (.ref 170), some (.int l1), some (.int l2)] [] (zk B im lm) = if (im 175 (Int32.toNatClampNeg l1)) ≤ (im 175 (Int32.toNatClampNeg l2)) then zeRun 158 34 [some (.ref 170), some (.int l1), some (.int l2)] [] (zk B im lm) else zeRun 158 30 [some (.ref 170), some (.int l1), some (.int l2)] [] (zk B im lm) := ze_if (ok := (zeInb l2 6 && (zeInb l1 6 && true))) rfl 9 rfl (zeA2 c1 (zeA2 c0 rfl))
theorem d_158_34 {B : zeB} {im : Nat → Nat → Int32} {lm : Nat → Nat → Int64} (o0 : Option Value) (o1 : Option Value) (o2 : Option Value)  : zeRun 158 34 [o0, o1, o2] [] (zk B im lm) = some (some (.int 0), (zk B im lm)) := ze_ret (ok := true) rfl 2 rfl rfl
theorem d_158_30 {B : zeB} {im : Nat → Nat → Int32} {lm : Nat → Nat → Int64} (o0 : Option Value) (o1 : Option Value) (o2 : Option Value)  : zeRun 158 30 [o0, o1, o2] [] (zk B im lm) = some (some (.int 1), (zk B im lm)) := ze_ret (ok := true) rfl 3 rfl rfl
def m_158 (l1 : Int32) (l2 : Int32) (im : zI) (lm : zJ) : zR :=
    zCk (zeInb l1 6) <|
    zCk (zeInb l2 6) <|
    some (if (im 175 (Int32.toNatClampNeg l1)) = (im 175 (Int32.toNatClampNeg l2)) then if (im 179 (Int32.toNatClampNeg l1)) = (im 179 (Int32.toNatClampNeg l2)) then if (im 180 (Int32.toNatClampNeg l1)) = (im 180 (Int32.toNatClampNeg l2)) then if l2 ≤ l1 then 0 else 1 else if (im 180 (Int32.toNatClampNeg l2)) ≤ (im 180 (Int32.toNatClampNeg l1)) then 0 else 1 else if (im 179 (Int32.toNatClampNeg l1)) ≤ (im 179 (Int32.toNatClampNeg l2)) then 0 else 1 else if (im 175 (Int32.toNatClampNeg l1)) ≤ (im 175 (Int32.toNatClampNeg l2)) then 0 else 1, im, lm)
theorem m_158_ok {B : zeB} (l1 : Int32) (l2 : Int32) (im : zI) (lm : zJ) : zL B 1 (m_158 l1 l2 im lm) (zeRun 158 0 [some (.ref 170), some (.int l1), some (.int l2)] [] (zk B im lm)) := by
  unfold m_158
  refine zL_ck fun c1 => ?_
  refine zL_ck fun c2 => ?_
  refine zL_ifm (d_158_0 _ _ c1 c2) (fun h => ?_) (fun h => ?_)
  · repeat rw [if_pos h]
    refine zL_ifm (d_158_36 _ _ c1 c2) (fun h => ?_) (fun h => ?_)
    · repeat rw [if_pos h]
      refine zL_ifm (d_158_72 _ _ c1 c2) (fun h => ?_) (fun h => ?_)
      · repeat rw [if_pos h]
        refine zL_ifm (d_158_110 _ _ _) (fun h => ?_) (fun h => ?_)
        · repeat rw [if_pos h]
          exact zL_ret (d_158_119 _ _ _)
        · repeat rw [if_neg h]
          exact zL_ret (d_158_115 _ _ _)
      · repeat rw [if_neg h]
        refine zL_ifm (d_158_87 _ _ c1 c2) (fun h => ?_) (fun h => ?_)
        · repeat rw [if_pos h]
          exact zL_ret (d_158_106 _ _ _)
        · repeat rw [if_neg h]
          exact zL_ret (d_158_102 _ _ _)
    · repeat rw [if_neg h]
      refine zL_ifm (d_158_51 _ _ c1 c2) (fun h => ?_) (fun h => ?_)
      · repeat rw [if_pos h]
        exact zL_ret (d_158_70 _ _ _)
      · repeat rw [if_neg h]
        exact zL_ret (d_158_66 _ _ _)
  · repeat rw [if_neg h]
    refine zL_ifm (d_158_15 _ _ c1 c2) (fun h => ?_) (fun h => ?_)
    · repeat rw [if_pos h]
      exact zL_ret (d_158_34 _ _ _)
    · repeat rw [if_neg h]
      exact zL_ret (d_158_30 _ _ _)
/-! X8_placeOf -/
theorem d_159_0 {B : zeB} {im : Nat → Nat → Int32} {lm : Nat → Nat → Int64} (l1 : Int32) (o2 : Option Value) (o3 : Option Value)  : zeRun 159 0 [some (.ref 170), some (.int l1), o2, o3] [] (zk B im lm) = zeRun 159 4 [some (.ref 170), some (.int l1), some (.int 0), some (.int 0)] [] (zk B im lm) := ze_go (ok := true) rfl 4 rfl rfl
theorem d_159_4 {B : zeB} {im : Nat → Nat → Int32} {lm : Nat → Nat → Int64} (l1 : Int32) (l2 : Int32) (l3 : Int32)  : zeRun 159 4 [some (.ref 170), some (.int l1), some (.int l2), some (.int l3)] [] (zk B im lm) = if (im 171 1) ≤ l3 then zeRun 159 42 [some (.ref 170), some (.int l1), some (.int l2), some (.int l3)] [] (zk B im lm) else zeRun 159 14 [some (.ref 170), some (.int l1), some (.int l2), some (.int l3)] [] (zk B im lm) := ze_if (ok := true) rfl 6 rfl rfl
theorem d_159_42 {B : zeB} {im : Nat → Nat → Int32} {lm : Nat → Nat → Int64} (o0 : Option Value) (o1 : Option Value) (l2 : Int32) (o3 : Option Value)  : zeRun 159 42 [o0, o1, some (.int l2), o3] [] (zk B im lm) = some (some (.int l2), (zk B im lm)) := ze_ret (ok := true) rfl 2 rfl rfl
theorem d_159_14 {B : zeB} {im : Nat → Nat → Int32} {lm : Nat → Nat → Int64} (l1 : Int32) (l2 : Int32) (l3 : Int32)  : zeRun 159 14 [some (.ref 170), some (.int l1), some (.int l2), some (.int l3)] [] (zk B im lm) = if l3 = l1 then zeRun 159 33 [some (.ref 170), some (.int l1), some (.int l2), some (.int l3)] [.int l2] (zk B im lm) else zeRun 159 20 [some (.ref 170), some (.int l1), some (.int l2), some (.int l3)] [.int l2] (zk B im lm) := ze_if (ok := true) rfl 4 rfl rfl
theorem d_159_33 {B : zeB} {im : Nat → Nat → Int32} {lm : Nat → Nat → Int64} (l1 : Int32) (o2 : Option Value) (l3 : Int32) (s0 : Int32)  : zeRun 159 33 [some (.ref 170), some (.int l1), o2, some (.int l3)] [.int s0] (zk B im lm) = zeRun 159 4 [some (.ref 170), some (.int l1), some (.int (s0 + 0)), some (.int (l3 + 1))] [] (zk B im lm) := ze_go (ok := true) rfl 5 rfl rfl
theorem d_159_20 {B : zeB} {im : Nat → Nat → Int32} {lm : Nat → Nat → Int64} (l1 : Int32) (o2 : Option Value) (l3 : Int32) (s0 : Int32)  : zeRun 159 20 [some (.ref 170), some (.int l1), o2, some (.int l3)] [.int s0] (zk B im lm) = zeBh 159 26 [some (.ref 170), some (.int l1), o2, some (.int l3)] [.int s0] (zeRun 158 0 [some (.ref 170), some (.int l3), some (.int l1)] [] (zk B im lm)) := ze_call (ok := true) rfl 4 rfl rfl rfl
theorem d_159_26 {B : zeB} {im : Nat → Nat → Int32} {lm : Nat → Nat → Int64} (l1 : Int32) (o2 : Option Value) (l3 : Int32) (s0 : Int32) (s1 : Int32)  : zeRun 159 26 [some (.ref 170), some (.int l1), o2, some (.int l3)] [.int s1, .int s0] (zk B im lm) = if s1 = 0 then zeRun 159 33 [some (.ref 170), some (.int l1), o2, some (.int l3)] [.int s0] (zk B im lm) else zeRun 159 29 [some (.ref 170), some (.int l1), o2, some (.int l3)] [.int s0] (zk B im lm) := ze_if (ok := true) rfl 1 rfl rfl
theorem d_159_29 {B : zeB} {im : Nat → Nat → Int32} {lm : Nat → Nat → Int64} (l1 : Int32) (o2 : Option Value) (l3 : Int32) (s0 : Int32)  : zeRun 159 29 [some (.ref 170), some (.int l1), o2, some (.int l3)] [.int s0] (zk B im lm) = zeRun 159 4 [some (.ref 170), some (.int l1), some (.int (s0 + 1)), some (.int (l3 + 1))] [] (zk B im lm) := ze_go (ok := true) rfl 6 rfl rfl
def F_159_4  : Nat → Int32 → Int32 → Int32 → zI → zJ → zR
  | 0, _, _, _, _, _ => none
  | n + 1, l1, l2, l3, im, lm =>
    if (im 171 1) ≤ l3 then
      some (l2, im, lm)
    else
      if l3 = l1 then
        F_159_4  n l1 (l2 + 0) (l3 + 1) im lm
      else
        zBd (m_158 l3 l1 im lm) fun v1 im1 lm1 =>
        F_159_4  n l1 (if v1 = 0 then (l2 + 0) else (l2 + 1)) (l3 + 1) im1 lm1
theorem F_159_4_ok {B : zeB} : ∀ (n : Nat) (l1 : Int32) (l2 : Int32) (l3 : Int32)  (im : zI) (lm : zJ), zL B 1 (F_159_4  n l1 l2 l3 im lm) (zeRun 159 4 [some (.ref 170), some (.int l1), some (.int l2), some (.int l3)] [] (zk B im lm)) := by
  intro n
  induction n with
  | zero => intros; exact zL_none
  | succ n ih =>
    intro l1 l2 l3 im lm
    unfold F_159_4
    refine zL_if (d_159_4 _ _ _) (fun h => ?_) (fun h => ?_)
    · skip
      exact zL_ret (d_159_42 _ _ _ _)
    · skip
      refine zL_if (d_159_14 _ _ _) (fun h => ?_) (fun h => ?_)
      · skip
        refine zL_eq (d_159_33 _ _ _ _) ?_
        exact ih _ _ _ _ _
      · skip
        refine zL_bd (d_159_20 _ _ _ _) (m_158_ok _ _ _ _) fun v1 im1 lm1 => ?_
        refine zL_ifm (d_159_26 _ _ _ _ _) (fun h => ?_) (fun h => ?_)
        · repeat rw [if_pos h]
          refine zL_eq (d_159_33 _ _ _ _) ?_
          exact ih _ _ _ _ _
        · repeat rw [if_neg h]
          refine zL_eq (d_159_29 _ _ _ _) ?_
          exact ih _ _ _ _ _
def m_159 (l1 : Int32) (im : zI) (lm : zJ) : zR :=
    F_159_4  2000 l1 0 0 im lm
theorem m_159_ok {B : zeB} (l1 : Int32) (im : zI) (lm : zJ) : zL B 1 (m_159 l1 im lm) (zeRun 159 0 [some (.ref 170), some (.int l1), none, none] [] (zk B im lm)) := by
  unfold m_159
  refine zL_eq (d_159_0 _ _ _) ?_
  exact F_159_4_ok  _ _ _ _ _ _
/-! X8_orNone -/
theorem d_160_0 {B : zeB} {im : Nat → Nat → Int32} {lm : Nat → Nat → Int64} (l0 : Int32)  : zeRun 160 0 [some (.int l0)] [] (zk B im lm) = if 0 ≤ l0 then zeRun 160 9 [some (.int l0)] [] (zk B im lm) else zeRun 160 4 [some (.int l0)] [] (zk B im lm) := ze_if (ok := true) rfl 2 rfl rfl
theorem d_160_9 {B : zeB} {im : Nat → Nat → Int32} {lm : Nat → Nat → Int64} (l0 : Int32)  : zeRun 160 9 [some (.int l0)] [] (zk B im lm) = some (some (.int l0), (zk B im lm)) := ze_ret (ok := true) rfl 2 rfl rfl
theorem d_160_4 {B : zeB} {im : Nat → Nat → Int32} {lm : Nat → Nat → Int64} (o0 : Option Value)  : zeRun 160 4 [o0] [] (zk B im lm) = some (some (.int (-10000005)), (zk B im lm)) := ze_ret (ok := true) rfl 3 rfl rfl
def m_160 (l0 : Int32) (im : zI) (lm : zJ) : zR :=
    some (if 0 ≤ l0 then l0 else (-10000005), im, lm)
theorem m_160_ok {B : zeB} (l0 : Int32) (im : zI) (lm : zJ) : zL B 1 (m_160 l0 im lm) (zeRun 160 0 [some (.int l0)] [] (zk B im lm)) := by
  unfold m_160
  refine zL_ifm (d_160_0 _) (fun h => ?_) (fun h => ?_)
  · repeat rw [if_pos h]
    exact zL_ret (d_160_9 _)
  · repeat rw [if_neg h]
    exact zL_ret (d_160_4 _)
/-! X8_player -/
theorem d_161_0 {B : zeB} {im : Nat → Nat → Int32} {lm : Nat → Nat → Int64} (l1 : Int32) (l2 : Int32)  : zeRun 161 0 [some (.ref 170), some (.int l1), some (.int l2)] [] (zk B im lm) = zeBh 161 5 [some (.ref 170), some (.int l1), some (.int l2)] [] (zeRun 44 0 [some (.ref 170), some (.int l1)] [] (zk B im lm)) := ze_call (ok := true) rfl 3 rfl rfl rfl
theorem d_161_5 {B : zeB} {im : Nat → Nat → Int32} {lm : Nat → Nat → Int64} (l1 : Int32) (l2 : Int32) (s0 : Int32)  : zeRun 161 5 [some (.ref 170), some (.int l1), some (.int l2)] [.int s0] (zk B im lm) = if s0 = 0 then zeRun 161 11 [some (.ref 170), some (.int l1), some (.int l2)] [] (zk B im lm) else zeRun 161 8 [some (.ref 170), some (.int l1), some (.int l2)] [] (zk B im lm) := ze_if (ok := true) rfl 1 rfl rfl
theorem d_161_11 {B : zeB} {im : Nat → Nat → Int32} {lm : Nat → Nat → Int64} (l1 : Int32) (l2 : Int32)  : zeRun 161 11 [some (.ref 170), some (.int l1), some (.int l2)] [] (zk B im lm) = zeBh 161 15 [some (.ref 170), some (.int l1), some (.int l2)] [] (zeRun 47 0 [some (.ref 170), none, none, none, none, none, none] [] (zk B im lm)) := ze_call (ok := true) rfl 2 rfl rfl rfl
theorem d_161_15 {B : zeB} {im : Nat → Nat → Int32} {lm : Nat → Nat → Int64} (l1 : Int32) (l2 : Int32)  : zeRun 161 15 [some (.ref 170), some (.int l1), some (.int l2)] [] (zk B im lm) = zeRun 161 (zeSw l2 141 [(0, 64), (1, 71), (2, 78), (3, 85), (4, 91), (5, 97), (6, 121), (7, 134)]) [some (.ref 170), some (.int l1), some (.int l2)] [] (zk B im lm) := ze_go (ok := true) rfl 2 rfl rfl
theorem d_161_64 {B : zeB} {im : Nat → Nat → Int32} {lm : Nat → Nat → Int64} (l1 : Int32) (o2 : Option Value) (c0 : zeInb l1 6 = true) : zeRun 161 64 [some (.ref 170), some (.int l1), o2] [] (zk B im lm) = some (some (.int (im 175 (Int32.toNatClampNeg l1))), (zk B im lm)) := ze_ret (ok := (zeInb l1 6 && true)) rfl 5 rfl (zeA2 c0 rfl)
theorem d_161_71 {B : zeB} {im : Nat → Nat → Int32} {lm : Nat → Nat → Int64} (l1 : Int32) (o2 : Option Value) (c0 : zeInb l1 6 = true) : zeRun 161 71 [some (.ref 170), some (.int l1), o2] [] (zk B im lm) = some (some (.int (im 179 (Int32.toNatClampNeg l1))), (zk B im lm)) := ze_ret (ok := (zeInb l1 6 && true)) rfl 5 rfl (zeA2 c0 rfl)
theorem d_161_78 {B : zeB} {im : Nat → Nat → Int32} {lm : Nat → Nat → Int64} (l1 : Int32) (o2 : Option Value) (c0 : zeInb l1 6 = true) : zeRun 161 78 [some (.ref 170), some (.int l1), o2] [] (zk B im lm) = some (some (.int (im 180 (Int32.toNatClampNeg l1))), (zk B im lm)) := ze_ret (ok := (zeInb l1 6 && true)) rfl 5 rfl (zeA2 c0 rfl)
theorem d_161_85 {B : zeB} {im : Nat → Nat → Int32} {lm : Nat → Nat → Int64} (l1 : Int32) (o2 : Option Value)  : zeRun 161 85 [some (.ref 170), some (.int l1), o2] [] (zk B im lm) = zeBh 161 90 [some (.ref 170), some (.int l1), o2] [] (zeRun 157 0 [some (.ref 170), some (.int l1), none, none] [] (zk B im lm)) := ze_call (ok := true) rfl 3 rfl rfl rfl
theorem d_161_90 {B : zeB} {im : Nat → Nat → Int32} {lm : Nat → Nat → Int64} (o0 : Option Value) (o1 : Option Value) (o2 : Option Value) (s0 : Int32)  : zeRun 161 90 [o0, o1, o2] [.int s0] (zk B im lm) = some (some (.int s0), (zk B im lm)) := ze_ret (ok := true) rfl 1 rfl rfl
theorem d_161_91 {B : zeB} {im : Nat → Nat → Int32} {lm : Nat → Nat → Int64} (l1 : Int32) (o2 : Option Value)  : zeRun 161 91 [some (.ref 170), some (.int l1), o2] [] (zk B im lm) = zeBh 161 96 [some (.ref 170), some (.int l1), o2] [] (zeRun 159 0 [some (.ref 170), some (.int l1), none, none] [] (zk B im lm)) := ze_call (ok := true) rfl 3 rfl rfl rfl
theorem d_161_96 {B : zeB} {im : Nat → Nat → Int32} {lm : Nat → Nat → Int64} (o0 : Option Value) (o1 : Option Value) (o2 : Option Value) (s0 : Int32)  : zeRun 161 96 [o0, o1, o2] [.int s0] (zk B im lm) = some (some (.int s0), (zk B im lm)) := ze_ret (ok := true) rfl 1 rfl rfl
theorem d_161_97 {B : zeB} {im : Nat → Nat → Int32} {lm : Nat → Nat → Int64} (l1 : Int32) (o2 : Option Value)  : zeRun 161 97 [some (.ref 170), some (.int l1), o2] [] (zk B im lm) = if (im 171 0) = 1 then zeRun 161 107 [some (.ref 170), some (.int l1), o2] [] (zk B im lm) else zeRun 161 118 [some (.ref 170), some (.int l1), o2] [] (zk B im lm) := ze_if (ok := true) rfl 6 rfl rfl
theorem d_161_107 {B : zeB} {im : Nat → Nat → Int32} {lm : Nat → Nat → Int64} (l1 : Int32) (o2 : Option Value)  : zeRun 161 107 [some (.ref 170), some (.int l1), o2] [] (zk B im lm) = zeBh 161 112 [some (.ref 170), some (.int l1), o2] [] (zeRun 62 0 [some (.ref 170), some (.int l1), none, none] [] (zk B im lm)) := ze_call (ok := true) rfl 3 rfl rfl rfl
theorem d_161_112 {B : zeB} {im : Nat → Nat → Int32} {lm : Nat → Nat → Int64} (o0 : Option Value) (o1 : Option Value) (o2 : Option Value) (s0 : Int32)  : zeRun 161 112 [o0, o1, o2] [.int s0] (zk B im lm) = zeBh 161 115 [o0, o1, o2] [] (zeRun 160 0 [some (.int s0)] [] (zk B im lm)) := ze_call (ok := true) rfl 1 rfl rfl rfl
theorem d_161_115 {B : zeB} {im : Nat → Nat → Int32} {lm : Nat → Nat → Int64} (o0 : Option Value) (o1 : Option Value) (o2 : Option Value) (s0 : Int32)  : zeRun 161 115 [o0, o1, o2] [.int s0] (zk B im lm) = some (some (.int s0), (zk B im lm)) := ze_ret (ok := true) rfl 2 rfl rfl
theorem d_161_118 {B : zeB} {im : Nat → Nat → Int32} {lm : Nat → Nat → Int64} (o0 : Option Value) (o1 : Option Value) (o2 : Option Value)  : zeRun 161 118 [o0, o1, o2] [] (zk B im lm) = some (some (.int (-10000005)), (zk B im lm)) := ze_ret (ok := true) rfl 2 rfl rfl
theorem d_161_121 {B : zeB} {im : Nat → Nat → Int32} {lm : Nat → Nat → Int64} (l1 : Int32) (o2 : Option Value) (c0 : zeInb (22 + l1) 360 = true) : zeRun 161 121 [some (.ref 170), some (.int l1), o2] [] (zk B im lm) = zeBh 161 133 [some (.ref 170), some (.int l1), o2] [] (zeRun 160 0 [some (.int (im 171 (Int32.toNatClampNeg (22 + l1))))] [] (zk B im lm)) := ze_call (ok := (zeInb (22 + l1) 360 && true)) rfl 7 rfl rfl (zeA2 c0 rfl)
theorem d_161_133 {B : zeB} {im : Nat → Nat → Int32} {lm : Nat → Nat → Int64} (o0 : Option Value) (o1 : Option Value) (o2 : Option Value) (s0 : Int32)  : zeRun 161 133 [o0, o1, o2] [.int s0] (zk B im lm) = some (some (.int s0), (zk B im lm)) := ze_ret (ok := true) rfl 1 rfl rfl
theorem d_161_134 {B : zeB} {im : Nat → Nat → Int32} {lm : Nat → Nat → Int64} (l1 : Int32) (o2 : Option Value) (c0 : zeInb l1 6 = true) : zeRun 161 134 [some (.ref 170), some (.int l1), o2] [] (zk B im lm) = some (some (.int (im 181 (Int32.toNatClampNeg l1))), (zk B im lm)) := ze_ret (ok := (zeInb l1 6 && true)) rfl 5 rfl (zeA2 c0 rfl)
theorem d_161_141 {B : zeB} {im : Nat → Nat → Int32} {lm : Nat → Nat → Int64} (o0 : Option Value) (o1 : Option Value) (o2 : Option Value)  : zeRun 161 141 [o0, o1, o2] [] (zk B im lm) = some (some (.int (-10000002)), (zk B im lm)) := ze_ret (ok := true) rfl 2 rfl rfl
theorem d_161_8 {B : zeB} {im : Nat → Nat → Int32} {lm : Nat → Nat → Int64} (o0 : Option Value) (o1 : Option Value) (o2 : Option Value)  : zeRun 161 8 [o0, o1, o2] [] (zk B im lm) = some (some (.int (-10000001)), (zk B im lm)) := ze_ret (ok := true) rfl 2 rfl rfl
def m_161 (l1 : Int32) (l2 : Int32) (im : zI) (lm : zJ) : zR :=
    if (if (if l1 < 0 then 0 else if ((im 171 1) - 1) < l1 then 0 else 1 : Int32) = 0 then 1 else 0 : Int32) = 0 then
      zBd (m_47  im lm) fun _ im2 lm2 =>
      if l2 = 0 then
        zCk (zeInb l1 6) <|
        some ((im2 175 (Int32.toNatClampNeg l1)), im2, lm2)
      else
        if l2 = 1 then
          zCk (zeInb l1 6) <|
          some ((im2 179 (Int32.toNatClampNeg l1)), im2, lm2)
        else
          if l2 = 2 then
            zCk (zeInb l1 6) <|
            some ((im2 180 (Int32.toNatClampNeg l1)), im2, lm2)
          else
            if l2 = 3 then
              zBd (m_157 l1 im2 lm2) fun v3 im3 lm3 =>
              some (v3, im3, lm3)
            else
              if l2 = 4 then
                zBd (m_159 l1 im2 lm2) fun v4 im4 lm4 =>
                some (v4, im4, lm4)
              else
                if l2 = 5 then
                  if (im2 171 0) = 1 then
                    zBd (m_62 l1 im2 lm2) fun v5 im5 lm5 =>
                    some ((if 0 ≤ v5 then v5 else (-10000005) : Int32), im5, lm5)
                  else
                    some ((-10000005), im2, lm2)
                else
                  if l2 = 6 then
                    zCk (zeInb (22 + l1) 360) <|
                    some ((if 0 ≤ (im2 171 (Int32.toNatClampNeg (22 + l1))) then (im2 171 (Int32.toNatClampNeg (22 + l1))) else (-10000005) : Int32), im2, lm2)
                  else
                    if l2 = 7 then
                      zCk (zeInb l1 6) <|
                      some ((im2 181 (Int32.toNatClampNeg l1)), im2, lm2)
                    else
                      some ((-10000002), im2, lm2)
    else
      some ((-10000001), im, lm)
theorem m_161_ok {B : zeB} (l1 : Int32) (l2 : Int32) (im : zI) (lm : zJ) : zL B 1 (m_161 l1 l2 im lm) (zeRun 161 0 [some (.ref 170), some (.int l1), some (.int l2)] [] (zk B im lm)) := by
  unfold m_161
  refine zL_bdp (e := (if (if l1 < 0 then 0 else if ((im 171 1) - 1) < l1 then 0 else 1 : Int32) = 0 then 1 else 0 : Int32)) (d_161_0 _ _) (m_44_ok _ _ _) ?_
  refine zL_if (d_161_5 _ _ _) (fun h => ?_) (fun h => ?_)
  · skip
    refine zL_bdv (d_161_11 _ _) (m_47_ok _ _) fun _ im2 lm2 => ?_
    refine zL_eq (d_161_15 _ _) ?_
    refine zL_sw (fun h => ?_) (fun h => ?_)
    · skip
      refine zL_ck fun c1 => ?_
      exact zL_ret (d_161_64 _ _ c1)
    refine zL_sw (fun h => ?_) (fun h => ?_)
    · skip
      refine zL_ck fun c2 => ?_
      exact zL_ret (d_161_71 _ _ c2)
    refine zL_sw (fun h => ?_) (fun h => ?_)
    · skip
      refine zL_ck fun c3 => ?_
      exact zL_ret (d_161_78 _ _ c3)
    refine zL_sw (fun h => ?_) (fun h => ?_)
    · skip
      refine zL_bd (d_161_85 _ _) (m_157_ok _ _ _) fun v3 im3 lm3 => ?_
      exact zL_ret (d_161_90 _ _ _ _)
    refine zL_sw (fun h => ?_) (fun h => ?_)
    · skip
      refine zL_bd (d_161_91 _ _) (m_159_ok _ _ _) fun v4 im4 lm4 => ?_
      exact zL_ret (d_161_96 _ _ _ _)
    refine zL_sw (fun h => ?_) (fun h => ?_)
    · skip
      refine zL_if (d_161_97 _ _) (fun h => ?_) (fun h => ?_)
      · skip
        refine zL_bd (d_161_107 _ _) (m_62_ok _ _ _) fun v5 im5 lm5 => ?_
        refine zL_bdp (e := (if 0 ≤ v5 then v5 else (-10000005) : Int32)) (d_161_112 _ _ _ _) (m_160_ok _ _ _) ?_
        exact zL_ret (d_161_115 _ _ _ _)
      · skip
        exact zL_ret (d_161_118 _ _ _)
    refine zL_sw (fun h => ?_) (fun h => ?_)
    · skip
      refine zL_ck fun c4 => ?_
      refine zL_bdp (e := (if 0 ≤ (im2 171 (Int32.toNatClampNeg (22 + l1))) then (im2 171 (Int32.toNatClampNeg (22 + l1))) else (-10000005) : Int32)) (d_161_121 _ _ c4) (m_160_ok _ _ _) ?_
      exact zL_ret (d_161_133 _ _ _ _)
    refine zL_sw (fun h => ?_) (fun h => ?_)
    · skip
      refine zL_ck fun c5 => ?_
      exact zL_ret (d_161_134 _ _ c5)
    refine zL_swd ?_
    exact zL_ret (d_161_141 _ _ _)
  · skip
    exact zL_ret (d_161_8 _ _ _)
/-! X7_playerAtPlace -/
theorem d_162_0 {B : zeB} {im : Nat → Nat → Int32} {lm : Nat → Nat → Int64} (l1 : Int32) (o2 : Option Value)  : zeRun 162 0 [some (.ref 16), some (.int l1), o2] [] (zk B im lm) = zeRun 162 2 [some (.ref 16), some (.int l1), some (.int 0)] [] (zk B im lm) := ze_go (ok := true) rfl 2 rfl rfl
theorem d_162_2 {B : zeB} {im : Nat → Nat → Int32} {lm : Nat → Nat → Int64} (l1 : Int32) (l2 : Int32)  : zeRun 162 2 [some (.ref 16), some (.int l1), some (.int l2)] [] (zk B im lm) = if (im 17 1) ≤ l2 then zeRun 162 30 [some (.ref 16), some (.int l1), some (.int l2)] [] (zk B im lm) else zeRun 162 13 [some (.ref 16), some (.int l1), some (.int l2)] [] (zk B im lm) := ze_if (ok := true) rfl 5 rfl rfl
theorem d_162_30 {B : zeB} {im : Nat → Nat → Int32} {lm : Nat → Nat → Int64} (o0 : Option Value) (o1 : Option Value) (o2 : Option Value)  : zeRun 162 30 [o0, o1, o2] [] (zk B im lm) = some (some (.int (-10000005)), (zk B im lm)) := ze_ret (ok := true) rfl 2 rfl rfl
theorem d_162_13 {B : zeB} {im : Nat → Nat → Int32} {lm : Nat → Nat → Int64} (l1 : Int32) (l2 : Int32)  : zeRun 162 13 [some (.ref 16), some (.int l1), some (.int l2)] [] (zk B im lm) = zeBh 162 18 [some (.ref 16), some (.int l1), some (.int l2)] [] (zeRun 155 0 [some (.ref 16), some (.int l2), none, none] [] (zk B im lm)) := ze_call (ok := true) rfl 3 rfl rfl rfl
theorem d_162_18 {B : zeB} {im : Nat → Nat → Int32} {lm : Nat → Nat → Int64} (l1 : Int32) (l2 : Int32) (s0 : Int32)  : zeRun 162 18 [some (.ref 16), some (.int l1), some (.int l2)] [.int s0] (zk B im lm) = if s0 = l1 then zeRun 162 22 [some (.ref 16), some (.int l1), some (.int l2)] [] (zk B im lm) else zeRun 162 24 [some (.ref 16), some (.int l1), some (.int l2)] [] (zk B im lm) := ze_if (ok := true) rfl 2 rfl rfl
theorem d_162_22 {B : zeB} {im : Nat → Nat → Int32} {lm : Nat → Nat → Int64} (o0 : Option Value) (o1 : Option Value) (l2 : Int32)  : zeRun 162 22 [o0, o1, some (.int l2)] [] (zk B im lm) = some (some (.int l2), (zk B im lm)) := ze_ret (ok := true) rfl 2 rfl rfl
theorem d_162_24 {B : zeB} {im : Nat → Nat → Int32} {lm : Nat → Nat → Int64} (l1 : Int32) (l2 : Int32)  : zeRun 162 24 [some (.ref 16), some (.int l1), some (.int l2)] [] (zk B im lm) = zeRun 162 2 [some (.ref 16), some (.int l1), some (.int (l2 + 1))] [] (zk B im lm) := ze_go (ok := true) rfl 2 rfl rfl
def F_162_2  : Nat → Int32 → Int32 → zI → zJ → zR
  | 0, _, _, _, _ => none
  | n + 1, l1, l2, im, lm =>
    if (im 17 1) ≤ l2 then
      some ((-10000005), im, lm)
    else
      zBd (m_155 l2 im lm) fun v1 im1 lm1 =>
      if v1 = l1 then
        some (l2, im1, lm1)
      else
        F_162_2  n l1 (l2 + 1) im1 lm1
theorem F_162_2_ok {B : zeB} : ∀ (n : Nat) (l1 : Int32) (l2 : Int32)  (im : zI) (lm : zJ), zL B 1 (F_162_2  n l1 l2 im lm) (zeRun 162 2 [some (.ref 16), some (.int l1), some (.int l2)] [] (zk B im lm)) := by
  intro n
  induction n with
  | zero => intros; exact zL_none
  | succ n ih =>
    intro l1 l2 im lm
    unfold F_162_2
    refine zL_if (d_162_2 _ _) (fun h => ?_) (fun h => ?_)
    · skip
      exact zL_ret (d_162_30 _ _ _)
    · skip
      refine zL_bd (d_162_13 _ _) (m_155_ok _ _ _) fun v1 im1 lm1 => ?_
      refine zL_if (d_162_18 _ _ _) (fun h => ?_) (fun h => ?_)
      · skip
        exact zL_ret (d_162_22 _ _ _)
      · skip
        refine zL_eq (d_162_24 _ _) ?_
        exact ih _ _ _ _
def m_162 (l1 : Int32) (im : zI) (lm : zJ) : zR :=
    F_162_2  2000 l1 0 im lm
theorem m_162_ok {B : zeB} (l1 : Int32) (im : zI) (lm : zJ) : zL B 1 (m_162 l1 im lm) (zeRun 162 0 [some (.ref 16), some (.int l1), none] [] (zk B im lm)) := by
  unfold m_162
  refine zL_eq (d_162_0 _ _) ?_
  exact F_162_2_ok  _ _ _ _ _
/-! X7_ordered -/
theorem d_163_0 {B : zeB} {im : Nat → Nat → Int32} {lm : Nat → Nat → Int64} (l1 : Int32)  : zeRun 163 0 [some (.ref 16), some (.int l1)] [] (zk B im lm) = if 0 ≤ l1 then zeRun 163 9 [some (.ref 16), some (.int l1)] [] (zk B im lm) else zeRun 163 4 [some (.ref 16), some (.int l1)] [] (zk B im lm) := ze_if (ok := true) rfl 2 rfl rfl
theorem d_163_9 {B : zeB} {im : Nat → Nat → Int32} {lm : Nat → Nat → Int64} (l1 : Int32)  : zeRun 163 9 [some (.ref 16), some (.int l1)] [] (zk B im lm) = zeBh 163 14 [some (.ref 16), some (.int l1)] [] (zeRun 162 0 [some (.ref 16), some (.int l1), none] [] (zk B im lm)) := ze_call (ok := true) rfl 3 rfl rfl rfl
theorem d_163_14 {B : zeB} {im : Nat → Nat → Int32} {lm : Nat → Nat → Int64} (o0 : Option Value) (o1 : Option Value) (s0 : Int32)  : zeRun 163 14 [o0, o1] [.int s0] (zk B im lm) = some (some (.int s0), (zk B im lm)) := ze_ret (ok := true) rfl 1 rfl rfl
theorem d_163_4 {B : zeB} {im : Nat → Nat → Int32} {lm : Nat → Nat → Int64} (o0 : Option Value) (o1 : Option Value)  : zeRun 163 4 [o0, o1] [] (zk B im lm) = some (some (.int (-10000002)), (zk B im lm)) := ze_ret (ok := true) rfl 3 rfl rfl
def m_163 (l1 : Int32) (im : zI) (lm : zJ) : zR :=
    if 0 ≤ l1 then
      zBd (m_162 l1 im lm) fun v1 im1 lm1 =>
      some (v1, im1, lm1)
    else
      some ((-10000002), im, lm)
theorem m_163_ok {B : zeB} (l1 : Int32) (im : zI) (lm : zJ) : zL B 1 (m_163 l1 im lm) (zeRun 163 0 [some (.ref 16), some (.int l1)] [] (zk B im lm)) := by
  unfold m_163
  refine zL_if (d_163_0 _) (fun h => ?_) (fun h => ?_)
  · skip
    refine zL_bd (d_163_9 _) (m_162_ok _ _ _) fun v1 im1 lm1 => ?_
    exact zL_ret (d_163_14 _ _ _)
  · skip
    exact zL_ret (d_163_4 _ _)
