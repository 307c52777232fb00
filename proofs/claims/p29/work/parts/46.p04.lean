/-! pure: X7_playersAbove, X7_leaders, X7_sumOfScores, X0_isEarlier, X0_turnOf, X0_nextToAnswer, X7_count, X7_isPlayer, X7_bitOf, X3_begin, X7_valueOf, X7_doPick, X7_pick, L_low, X7_isBeforeFirstPick, X7_doAddPlayer -/
/-! X7_playersAbove -/
theorem d_153_0 {B : zeB} {im : Nat → Nat → Int32} {lm : Nat → Nat → Int64} (l1 : Int32) (o2 : Option Value) (o3 : Option Value)  : zeRun 153 0 [some (.ref 16), some (.int l1), o2, o3] [] (zk B im lm) = zeRun 153 4 [some (.ref 16), some (.int l1), some (.int 0), some (.int 0)] [] (zk B im lm) := ze_go (ok := true) rfl 4 rfl rfl
theorem d_153_4 {B : zeB} {im : Nat → Nat → Int32} {lm : Nat → Nat → Int64} (l1 : Int32) (l2 : Int32) (l3 : Int32)  : zeRun 153 4 [some (.ref 16), some (.int l1), some (.int l2), some (.int l3)] [] (zk B im lm) = if (im 17 1) ≤ l3 then zeRun 153 37 [some (.ref 16), some (.int l1), some (.int l2), some (.int l3)] [] (zk B im lm) else zeRun 153 15 [some (.ref 16), some (.int l1), some (.int l2), some (.int l3)] [] (zk B im lm) := ze_if (ok := true) rfl 5 rfl rfl
theorem d_153_37 {B : zeB} {im : Nat → Nat → Int32} {lm : Nat → Nat → Int64} (o0 : Option Value) (o1 : Option Value) (l2 : Int32) (o3 : Option Value)  : zeRun 153 37 [o0, o1, some (.int l2), o3] [] (zk B im lm) = some (some (.int l2), (zk B im lm)) := ze_ret (ok := true) rfl 2 rfl rfl
theorem d_153_15 {B : zeB} {im : Nat → Nat → Int32} {lm : Nat → Nat → Int64} (l1 : Int32) (l2 : Int32) (l3 : Int32) (c0 : zeInb l3 6 = true) : zeRun 153 15 [some (.ref 16), some (.int l1), some (.int l2), some (.int l3)] [] (zk B im lm) = if (im 33 (Int32.toNatClampNeg l3)) ≤ l1 then zeRun 153 31 [some (.ref 16), some (.int l1), some (.int l2), some (.int l3)] [] (zk B im lm) else zeRun 153 28 [some (.ref 16), some (.int l1), some (.int l2), some (.int l3)] [] (zk B im lm) := ze_if (ok := (zeInb l3 6 && true)) rfl 7 rfl (zeA2 c0 rfl)
theorem d_153_31 {B : zeB} {im : Nat → Nat → Int32} {lm : Nat → Nat → Int64} (l1 : Int32) (l2 : Int32) (l3 : Int32)  : zeRun 153 31 [some (.ref 16), some (.int l1), some (.int l2), some (.int l3)] [] (zk B im lm) = zeRun 153 4 [some (.ref 16), some (.int l1), some (.int l2), some (.int (l3 + 1))] [] (zk B im lm) := ze_go (ok := true) rfl 2 rfl rfl
theorem d_153_28 {B : zeB} {im : Nat → Nat → Int32} {lm : Nat → Nat → Int64} (l1 : Int32) (l2 : Int32) (l3 : Int32)  : zeRun 153 28 [some (.ref 16), some (.int l1), some (.int l2), some (.int l3)] [] (zk B im lm) = zeRun 153 4 [some (.ref 16), some (.int l1), some (.int (l2 + 1)), some (.int (l3 + 1))] [] (zk B im lm) := ze_go (ok := true) rfl 3 rfl rfl
def F_153_4  : Nat → Int32 → Int32 → Int32 → zI → zJ → zR
  | 0, _, _, _, _, _ => none
  | n + 1, l1, l2, l3, im, lm =>
    if (im 17 1) ≤ l3 then
      some (l2, im, lm)
    else
      zCk (zeInb l3 6) <|
      F_153_4  n l1 (if (im 33 (Int32.toNatClampNeg l3)) ≤ l1 then l2 else (l2 + 1)) (l3 + 1) im lm
theorem F_153_4_ok {B : zeB} : ∀ (n : Nat) (l1 : Int32) (l2 : Int32) (l3 : Int32)  (im : zI) (lm : zJ), zL B 1 (F_153_4  n l1 l2 l3 im lm) (zeRun 153 4 [some (.ref 16), some (.int l1), some (.int l2), some (.int l3)] [] (zk B im lm)) := by
  intro n
  induction n with
  | zero => intros; exact zL_none
  | succ n ih =>
    intro l1 l2 l3 im lm
    unfold F_153_4
    refine zL_if (d_153_4 _ _ _) (fun h => ?_) (fun h => ?_)
    · skip
      exact zL_ret (d_153_37 _ _ _ _)
    · skip
      refine zL_ck fun c1 => ?_
      refine zL_ifm (d_153_15 _ _ _ c1) (fun h => ?_) (fun h => ?_)
      · repeat rw [if_pos h]
        refine zL_eq (d_153_31 _ _ _) ?_
        exact ih _ _ _ _ _
      · repeat rw [if_neg h]
        refine zL_eq (d_153_28 _ _ _) ?_
        exact ih _ _ _ _ _
def m_153 (l1 : Int32) (im : zI) (lm : zJ) : zR :=
    F_153_4  2000 l1 0 0 im lm
theorem m_153_ok {B : zeB} (l1 : Int32) (im : zI) (lm : zJ) : zL B 1 (m_153 l1 im lm) (zeRun 153 0 [some (.ref 16), some (.int l1), none, none] [] (zk B im lm)) := by
  unfold m_153
  refine zL_eq (d_153_0 _ _ _) ?_
  exact F_153_4_ok  _ _ _ _ _ _
/-! X7_leaders -/
theorem d_175_0 {B : zeB} {im : Nat → Nat → Int32} {lm : Nat → Nat → Int64} (o1 : Option Value) (o2 : Option Value)  : zeRun 175 0 [some (.ref 16), o1, o2] [] (zk B im lm) = zeRun 175 4 [some (.ref 16), some (.int 0), some (.int 0)] [] (zk B im lm) := ze_go (ok := true) rfl 4 rfl rfl
theorem d_175_4 {B : zeB} {im : Nat → Nat → Int32} {lm : Nat → Nat → Int64} (l1 : Int32) (l2 : Int32)  : zeRun 175 4 [some (.ref 16), some (.int l1), some (.int l2)] [] (zk B im lm) = if (im 17 1) ≤ l2 then zeRun 175 43 [some (.ref 16), some (.int l1), some (.int l2)] [] (zk B im lm) else zeRun 175 15 [some (.ref 16), some (.int l1), some (.int l2)] [] (zk B im lm) := ze_if (ok := true) rfl 5 rfl rfl
theorem d_175_43 {B : zeB} {im : Nat → Nat → Int32} {lm : Nat → Nat → Int64} (o0 : Option Value) (l1 : Int32) (o2 : Option Value)  : zeRun 175 43 [o0, some (.int l1), o2] [] (zk B im lm) = some (some (.int l1), (zk B im lm)) := ze_ret (ok := true) rfl 2 rfl rfl
theorem d_175_15 {B : zeB} {im : Nat → Nat → Int32} {lm : Nat → Nat → Int64} (l1 : Int32) (l2 : Int32) (c0 : zeInb l2 6 = true) : zeRun 175 15 [some (.ref 16), some (.int l1), some (.int l2)] [] (zk B im lm) = zeBh 175 28 [some (.ref 16), some (.int l1), some (.int l2)] [] (zeRun 153 0 [some (.ref 16), some (.int (im 33 (Int32.toNatClampNeg l2))), none, none] [] (zk B im lm)) := ze_call (ok := (zeInb l2 6 && true)) rfl 7 rfl rfl (zeA2 c0 rfl)
theorem d_175_28 {B : zeB} {im : Nat → Nat → Int32} {lm : Nat → Nat → Int64} (l1 : Int32) (l2 : Int32) (s0 : Int32)  : zeRun 175 28 [some (.ref 16), some (.int l1), some (.int l2)] [.int s0] (zk B im lm) = if s0 = 0 then zeRun 175 31 [some (.ref 16), some (.int l1), some (.int l2)] [] (zk B im lm) else zeRun 175 37 [some (.ref 16), some (.int l1), some (.int l2)] [] (zk B im lm) := ze_if (ok := true) rfl 1 rfl rfl
theorem d_175_31 {B : zeB} {im : Nat → Nat → Int32} {lm : Nat → Nat → Int64} (l1 : Int32) (l2 : Int32)  : zeRun 175 31 [some (.ref 16), some (.int l1), some (.int l2)] [] (zk B im lm) = zeRun 175 4 [some (.ref 16), some (.int (l1 ||| (1 <<< (l2 &&& 31)))), some (.int (l2 + 1))] [] (zk B im lm) := ze_go (ok := true) rfl 8 rfl rfl
theorem d_175_37 {B : zeB} {im : Nat → Nat → Int32} {lm : Nat → Nat → Int64} (l1 : Int32) (l2 : Int32)  : zeRun 175 37 [some (.ref 16), some (.int l1), some (.int l2)] [] (zk B im lm) = zeRun 175 4 [some (.ref 16), some (.int l1), some (.int (l2 + 1))] [] (zk B im lm) := ze_go (ok := true) rfl 2 rfl rfl
def F_175_4  : Nat → Int32 → Int32 → zI → zJ → zR
  | 0, _, _, _, _ => none
  | n + 1, l1, l2, im, lm =>
    if (im 17 1) ≤ l2 then
      some (l1, im, lm)
    else
      zCk (zeInb l2 6) <|
      zBd (m_153 (im 33 (Int32.toNatClampNeg l2)) im lm) fun v1 im1 lm1 =>
      F_175_4  n (if v1 = 0 then (l1 ||| (1 <<< (l2 &&& 31))) else l1) (l2 + 1) im1 lm1
theorem F_175_4_ok {B : zeB} : ∀ (n : Nat) (l1 : Int32) (l2 : Int32)  (im : zI) (lm : zJ), zL B 1 (F_175_4  n l1 l2 im lm) (zeRun 175 4 [some (.ref 16), some (.int l1), some (.int l2)] [] (zk B im lm)) := by
  intro n
  induction n with
  | zero => intros; exact zL_none
  | succ n ih =>
    intro l1 l2 im lm
    unfold F_175_4
    refine zL_if (d_175_4 _ _) (fun h => ?_) (fun h => ?_)
    · skip
      exact zL_ret (d_175_43 _ _ _)
    · skip
      refine zL_ck fun c1 => ?_
      refine zL_bd (d_175_15 _ _ c1) (m_153_ok _ _ _) fun v1 im1 lm1 => ?_
      refine zL_ifm (d_175_28 _ _ _) (fun h => ?_) (fun h => ?_)
      · repeat rw [if_pos h]
        refine zL_eq (d_175_31 _ _) ?_
        exact ih _ _ _ _
      · repeat rw [if_neg h]
        refine zL_eq (d_175_37 _ _) ?_
        exact ih _ _ _ _
def m_175  (im : zI) (lm : zJ) : zR :=
    F_175_4  2000 0 0 im lm
theorem m_175_ok {B : zeB}  (im : zI) (lm : zJ) : zL B 1 (m_175  im lm) (zeRun 175 0 [some (.ref 16), none, none] [] (zk B im lm)) := by
  unfold m_175
  refine zL_eq (d_175_0 _ _) ?_
  exact F_175_4_ok  _ _ _ _ _
/-! X7_sumOfScores -/
theorem d_176_0 {B : zeB} {im : Nat → Nat → Int32} {lm : Nat → Nat → Int64} (o1 : Option Value) (o2 : Option Value)  : zeRun 176 0 [some (.ref 16), o1, o2] [] (zk B im lm) = zeRun 176 4 [some (.ref 16), some (.int 0), some (.int 0)] [] (zk B im lm) := ze_go (ok := true) rfl 4 rfl rfl
theorem d_176_4 {B : zeB} {im : Nat → Nat → Int32} {lm : Nat → Nat → Int64} (l1 : Int32) (l2 : Int32)  : zeRun 176 4 [some (.ref 16), some (.int l1), some (.int l2)] [] (zk B im lm) = if (im 17 1) ≤ l2 then zeRun 176 33 [some (.ref 16), some (.int l1), some (.int l2)] [] (zk B im lm) else zeRun 176 15 [some (.ref 16), some (.int l1), some (.int l2)] [] (zk B im lm) := ze_if (ok := true) rfl 5 rfl rfl
theorem d_176_33 {B : zeB} {im : Nat → Nat → Int32} {lm : Nat → Nat → Int64} (o0 : Option Value) (l1 : Int32) (o2 : Option Value)  : zeRun 176 33 [o0, some (.int l1), o2] [] (zk B im lm) = some (some (.int l1), (zk B im lm)) := ze_ret (ok := true) rfl 2 rfl rfl
theorem d_176_15 {B : zeB} {im : Nat → Nat → Int32} {lm : Nat → Nat → Int64} (l1 : Int32) (l2 : Int32) (c0 : zeInb l2 6 = true) : zeRun 176 15 [some (.ref 16), some (.int l1), some (.int l2)] [] (zk B im lm) = zeRun 176 4 [some (.ref 16), some (.int (l1 + (im 33 (Int32.toNatClampNeg l2)))), some (.int (l2 + 1))] [] (zk B im lm) := ze_go (ok := (zeInb l2 6 && true)) rfl 10 rfl (zeA2 c0 rfl)
def F_176_4  : Nat → Int32 → Int32 → zI → zJ → zR
  | 0, _, _, _, _ => none
  | n + 1, l1, l2, im, lm =>
    if (im 17 1) ≤ l2 then
      some (l1, im, lm)
    else
      zCk (zeInb l2 6) <|
      F_176_4  n (l1 + (im 33 (Int32.toNatClampNeg l2))) (l2 + 1) im lm
theorem F_176_4_ok {B : zeB} : ∀ (n : Nat) (l1 : Int32) (l2 : Int32)  (im : zI) (lm : zJ), zL B 1 (F_176_4  n l1 l2 im lm) (zeRun 176 4 [some (.ref 16), some (.int l1), some (.int l2)] [] (zk B im lm)) := by
  intro n
  induction n with
  | zero => intros; exact zL_none
  | succ n ih =>
    intro l1 l2 im lm
    unfold F_176_4
    refine zL_if (d_176_4 _ _) (fun h => ?_) (fun h => ?_)
    · skip
      exact zL_ret (d_176_33 _ _ _)
    · skip
      refine zL_ck fun c1 => ?_
      refine zL_eq (d_176_15 _ _ c1) ?_
      exact ih _ _ _ _
def m_176  (im : zI) (lm : zJ) : zR :=
    F_176_4  2000 0 0 im lm
theorem m_176_ok {B : zeB}  (im : zI) (lm : zJ) : zL B 1 (m_176  im lm) (zeRun 176 0 [some (.ref 16), none, none] [] (zk B im lm)) := by
  unfold m_176
  refine zL_eq (d_176_0 _ _) ?_
  exact F_176_4_ok  _ _ _ _ _
/-! X0_isEarlier -/
theorem d_80_0 {B : zeB} {im : Nat → Nat → Int32} {lm : Nat → Nat → Int64} (l1 : Int32) (l2 : Int32) (c0 : zeInb l1 6 = true) (c1 : zeInb l2 6 = true) : zeRun 80 0 [some (.ref 23), some (.int l1), some (.int l2)] [] (zk B im lm) = if (im 24 (Int32.toNatClampNeg l1)) = (im 24 (Int32.toNatClampNeg l2)) then zeRun 80 36 [some (.ref 23), some (.int l1), some (.int l2)] [] (zk B im lm) else zeRun 80 15 [some (.ref 23), some (.int l1), some (.int l2)] [] (zk B im lm) := ze_if (ok := (zeInb l2 6 && (zeInb l1 6 && true))) rfl 9 rfl (zeA2 c1 (zeA2 c0 rfl))
theorem d_80_36 {B : zeB} {im : Nat → Nat → Int32} {lm : Nat → Nat → Int64} (o0 : Option Value) (l1 : Int32) (l2 : Int32)  : zeRun 80 36 [o0, some (.int l1), some (.int l2)] [] (zk B im lm) = if l2 ≤ l1 then zeRun 80 45 [o0, some (.int l1), some (.int l2)] [] (zk B im lm) else zeRun 80 41 [o0, some (.int l1), some (.int l2)] [] (zk B im lm) := ze_if (ok := true) rfl 3 rfl rfl
theorem d_80_45 {B : zeB} {im : Nat → Nat → Int32} {lm : Nat → Nat → Int64} (o0 : Option Value) (o1 : Option Value) (o2 : Option Value)  : zeRun 80 45 [o0, o1, o2] [] (zk B im lm) = some (some (.int 0), (zk B im lm)) := ze_ret (ok := true) rfl 2 rfl rfl
theorem d_80_41 {B : zeB} {im : Nat → Nat → Int32} {lm : Nat → Nat → Int64} (o0 : Option Value) (o1 : Option Value) (o2 : Option Value)  : zeRun 80 41 [o0, o1, o2] [] (zk B im lm) = some (some (.int 1), (zk B im lm)) := ze_ret (ok := true) rfl 3 rfl rfl
theorem d_80_15 {B : zeB} {im : Nat → Nat → Int32} {lm : Nat → Nat → Int64} (l1 : Int32) (l2 : Int32) (c0 : zeInb l1 6 = true) (c1 : zeInb l2 6 = true) : zeRun 80 15 [some (.ref 23), some (.int l1), some (.int l2)] [] (zk B im lm) = if (im 24 (Int32.toNatClampNeg l2)) ≤ (im 24 (Int32.toNatClampNeg l1)) then zeRun 80 34 [some (.ref 23), some (.int l1), some (.int l2)] [] (zk B im lm) else zeRun 80 30 [some (.ref 23), some (.int l1), some (.int l2)] [] (zk B im lm) := ze_if (ok := (zeInb l2 6 && (zeInb l1 6 && true))) rfl 9 rfl (zeA2 c1 (zeA2 c0 rfl))
theorem d_80_34 {B : zeB} {im : Nat → Nat → Int32} {lm : Nat → Nat → Int64} (o0 : Option Value) (o1 : Option Value) (o2 : Option Value)  : zeRun 80 34 [o0, o1, o2] [] (zk B im lm) = some (some (.int 0), (zk B im lm)) := ze_ret (ok := true) rfl 2 rfl rfl
theorem d_80_30 {B : zeB} {im : Nat → Nat → Int32} {lm : Nat → Nat → Int64} (o0 : Option Value) (o1 : Option Value) (o2 : Option Value)  : zeRun 80 30 [o0, o1, o2] [] (zk B im lm) = some (some (.int 1), (zk B im lm)) := ze_ret (ok := true) rfl 3 rfl rfl
def m_80 (l1 : Int32) (l2 : Int32) (im : zI) (lm : zJ) : zR :=
    zCk (zeInb l1 6) <|
    zCk (zeInb l2 6) <|
    some (if (im 24 (Int32.toNatClampNeg l1)) = (im 24 (Int32.toNatClampNeg l2)) then if l2 ≤ l1 then 0 else 1 else if (im 24 (Int32.toNatClampNeg l2)) ≤ (im 24 (Int32.toNatClampNeg l1)) then 0 else 1, im, lm)
theorem m_80_ok {B : zeB} (l1 : Int32) (l2 : Int32) (im : zI) (lm : zJ) : zL B 1 (m_80 l1 l2 im lm) (zeRun 80 0 [some (.ref 23), some (.int l1), some (.int l2)] [] (zk B im lm)) := by
  unfold m_80
  refine zL_ck fun c1 => ?_
  refine zL_ck fun c2 => ?_
  refine zL_ifm (d_80_0 _ _ c1 c2) (fun h => ?_) (fun h => ?_)
  · repeat rw [if_pos h]
    refine zL_ifm (d_80_36 _ _ _) (fun h => ?_) (fun h => ?_)
    · repeat rw [if_pos h]
      exact zL_ret (d_80_45 _ _ _)
    · repeat rw [if_neg h]
      exact zL_ret (d_80_41 _ _ _)
  · repeat rw [if_neg h]
    refine zL_ifm (d_80_15 _ _ c1 c2) (fun h => ?_) (fun h => ?_)
    · repeat rw [if_pos h]
      exact zL_ret (d_80_34 _ _ _)
    · repeat rw [if_neg h]
      exact zL_ret (d_80_30 _ _ _)
/-! X0_turnOf -/
theorem d_81_0 {B : zeB} {im : Nat → Nat → Int32} {lm : Nat → Nat → Int64} (l1 : Int32) (o2 : Option Value) (o3 : Option Value)  : zeRun 81 0 [some (.ref 23), some (.int l1), o2, o3] [] (zk B im lm) = zeRun 81 4 [some (.ref 23), some (.int l1), some (.int 0), some (.int 0)] [] (zk B im lm) := ze_go (ok := true) rfl 4 rfl rfl
theorem d_81_4 {B : zeB} {im : Nat → Nat → Int32} {lm : Nat → Nat → Int64} (l1 : Int32) (l2 : Int32) (l3 : Int32)  : zeRun 81 4 [some (.ref 23), some (.int l1), some (.int l2), some (.int l3)] [] (zk B im lm) = if 6 ≤ l3 then zeRun 81 37 [some (.ref 23), some (.int l1), some (.int l2), some (.int l3)] [] (zk B im lm) else zeRun 81 10 [some (.ref 23), some (.int l1), some (.int l2), some (.int l3)] [] (zk B im lm) := ze_if (ok := true) rfl 3 rfl rfl
theorem d_81_37 {B : zeB} {im : Nat → Nat → Int32} {lm : Nat → Nat → Int64} (o0 : Option Value) (o1 : Option Value) (l2 : Int32) (o3 : Option Value)  : zeRun 81 37 [o0, o1, some (.int l2), o3] [] (zk B im lm) = some (some (.int l2), (zk B im lm)) := ze_ret (ok := true) rfl 2 rfl rfl
theorem d_81_10 {B : zeB} {im : Nat → Nat → Int32} {lm : Nat → Nat → Int64} (l1 : Int32) (l2 : Int32) (l3 : Int32) (c0 : zeInb l3 6 = true) : zeRun 81 10 [some (.ref 23), some (.int l1), some (.int l2), some (.int l3)] [] (zk B im lm) = if (im 24 (Int32.toNatClampNeg l3)) ≤ 0 then zeRun 81 31 [some (.ref 23), some (.int l1), some (.int l2), some (.int l3)] [] (zk B im lm) else zeRun 81 19 [some (.ref 23), some (.int l1), some (.int l2), some (.int l3)] [] (zk B im lm) := ze_if (ok := (zeInb l3 6 && true)) rfl 5 rfl (zeA2 c0 rfl)
theorem d_81_31 {B : zeB} {im : Nat → Nat → Int32} {lm : Nat → Nat → Int64} (l1 : Int32) (l2 : Int32) (l3 : Int32)  : zeRun 81 31 [some (.ref 23), some (.int l1), some (.int l2), some (.int l3)] [] (zk B im lm) = zeRun 81 4 [some (.ref 23), some (.int l1), some (.int l2), some (.int (l3 + 1))] [] (zk B im lm) := ze_go (ok := true) rfl 2 rfl rfl
theorem d_81_19 {B : zeB} {im : Nat → Nat → Int32} {lm : Nat → Nat → Int64} (l1 : Int32) (l2 : Int32) (l3 : Int32)  : zeRun 81 19 [some (.ref 23), some (.int l1), some (.int l2), some (.int l3)] [] (zk B im lm) = zeBh 81 25 [some (.ref 23), some (.int l1), some (.int l2), some (.int l3)] [] (zeRun 80 0 [some (.ref 23), some (.int l3), some (.int l1)] [] (zk B im lm)) := ze_call (ok := true) rfl 4 rfl rfl rfl
theorem d_81_25 {B : zeB} {im : Nat → Nat → Int32} {lm : Nat → Nat → Int64} (l1 : Int32) (l2 : Int32) (l3 : Int32) (s0 : Int32)  : zeRun 81 25 [some (.ref 23), some (.int l1), some (.int l2), some (.int l3)] [.int s0] (zk B im lm) = if s0 = 0 then zeRun 81 31 [some (.ref 23), some (.int l1), some (.int l2), some (.int l3)] [] (zk B im lm) else zeRun 81 28 [some (.ref 23), some (.int l1), some (.int l2), some (.int l3)] [] (zk B im lm) := ze_if (ok := true) rfl 1 rfl rfl
theorem d_81_28 {B : zeB} {im : Nat → Nat → Int32} {lm : Nat → Nat → Int64} (l1 : Int32) (l2 : Int32) (l3 : Int32)  : zeRun 81 28 [some (.ref 23), some (.int l1), some (.int l2), some (.int l3)] [] (zk B im lm) = zeRun 81 4 [some (.ref 23), some (.int l1), some (.int (l2 + 1)), some (.int (l3 + 1))] [] (zk B im lm) := ze_go (ok := true) rfl 3 rfl rfl
def F_81_4  : Nat → Int32 → Int32 → Int32 → zI → zJ → zR
  | 0, _, _, _, _, _ => none
  | n + 1, l1, l2, l3, im, lm =>
    if 6 ≤ l3 then
      some (l2, im, lm)
    else
      zCk (zeInb l3 6) <|
      if (im 24 (Int32.toNatClampNeg l3)) ≤ 0 then
        F_81_4  n l1 l2 (l3 + 1) im lm
      else
        zBd (m_80 l3 l1 im lm) fun v1 im1 lm1 =>
        F_81_4  n l1 (if v1 = 0 then l2 else (l2 + 1)) (l3 + 1) im1 lm1
theorem F_81_4_ok {B : zeB} : ∀ (n : Nat) (l1 : Int32) (l2 : Int32) (l3 : Int32)  (im : zI) (lm : zJ), zL B 1 (F_81_4  n l1 l2 l3 im lm) (zeRun 81 4 [some (.ref 23), some (.int l1), some (.int l2), some (.int l3)] [] (zk B im lm)) := by
  intro n
  induction n with
  | zero => intros; exact zL_none
  | succ n ih =>
    intro l1 l2 l3 im lm
    unfold F_81_4
    refine zL_if (d_81_4 _ _ _) (fun h => ?_) (fun h => ?_)
    · skip
      exact zL_ret (d_81_37 _ _ _ _)
    · skip
      refine zL_ck fun c1 => ?_
      refine zL_if (d_81_10 _ _ _ c1) (fun h => ?_) (fun h => ?_)
      · skip
        refine zL_eq (d_81_31 _ _ _) ?_
        exact ih _ _ _ _ _
      · skip
        refine zL_bd (d_81_19 _ _ _) (m_80_ok _ _ _ _) fun v1 im1 lm1 => ?_
        refine zL_ifm (d_81_25 _ _ _ _) (fun h => ?_) (fun h => ?_)
        · repeat rw [if_pos h]
          refine zL_eq (d_81_31 _ _ _) ?_
          exact ih _ _ _ _ _
        · repeat rw [if_neg h]
          refine zL_eq (d_81_28 _ _ _) ?_
          exact ih _ _ _ _ _
def m_81 (l1 : Int32) (im : zI) (lm : zJ) : zR :=
    F_81_4  2000 l1 0 0 im lm
theorem m_81_ok {B : zeB} (l1 : Int32) (im : zI) (lm : zJ) : zL B 1 (m_81 l1 im lm) (zeRun 81 0 [some (.ref 23), some (.int l1), none, none] [] (zk B im lm)) := by
  unfold m_81
  refine zL_eq (d_81_0 _ _ _) ?_
  exact F_81_4_ok  _ _ _ _ _ _
/-! X0_nextToAnswer -/
theorem d_82_0 {B : zeB} {im : Nat → Nat → Int32} {lm : Nat → Nat → Int64} (o1 : Option Value)  : zeRun 82 0 [some (.ref 23), o1] [] (zk B im lm) = zeRun 82 2 [some (.ref 23), some (.int 0)] [] (zk B im lm) := ze_go (ok := true) rfl 2 rfl rfl
theorem d_82_2 {B : zeB} {im : Nat → Nat → Int32} {lm : Nat → Nat → Int64} (l1 : Int32)  : zeRun 82 2 [some (.ref 23), some (.int l1)] [] (zk B im lm) = if 6 ≤ l1 then zeRun 82 37 [some (.ref 23), some (.int l1)] [] (zk B im lm) else zeRun 82 8 [some (.ref 23), some (.int l1)] [] (zk B im lm) := ze_if (ok := true) rfl 3 rfl rfl
theorem d_82_37 {B : zeB} {im : Nat → Nat → Int32} {lm : Nat → Nat → Int64} (o0 : Option Value) (o1 : Option Value)  : zeRun 82 37 [o0, o1] [] (zk B im lm) = some (some (.int (-10000005)), (zk B im lm)) := ze_ret (ok := true) rfl 2 rfl rfl
theorem d_82_8 {B : zeB} {im : Nat → Nat → Int32} {lm : Nat → Nat → Int64} (l1 : Int32) (c0 : zeInb l1 6 = true) : zeRun 82 8 [some (.ref 23), some (.int l1)] [] (zk B im lm) = if (im 24 (Int32.toNatClampNeg l1)) ≤ 0 then zeRun 82 31 [some (.ref 23), some (.int l1)] [] (zk B im lm) else zeRun 82 17 [some (.ref 23), some (.int l1)] [] (zk B im lm) := ze_if (ok := (zeInb l1 6 && true)) rfl 5 rfl (zeA2 c0 rfl)
theorem d_82_31 {B : zeB} {im : Nat → Nat → Int32} {lm : Nat → Nat → Int64} (l1 : Int32)  : zeRun 82 31 [some (.ref 23), some (.int l1)] [] (zk B im lm) = zeRun 82 2 [some (.ref 23), some (.int (l1 + 1))] [] (zk B im lm) := ze_go (ok := true) rfl 2 rfl rfl
theorem d_82_17 {B : zeB} {im : Nat → Nat → Int32} {lm : Nat → Nat → Int64} (l1 : Int32)  : zeRun 82 17 [some (.ref 23), some (.int l1)] [] (zk B im lm) = zeBh 82 22 [some (.ref 23), some (.int l1)] [] (zeRun 81 0 [some (.ref 23), some (.int l1), none, none] [] (zk B im lm)) := ze_call (ok := true) rfl 3 rfl rfl rfl
theorem d_82_22 {B : zeB} {im : Nat → Nat → Int32} {lm : Nat → Nat → Int64} (l1 : Int32) (s0 : Int32)  : zeRun 82 22 [some (.ref 23), some (.int l1)] [.int s0] (zk B im lm) = if s0 = (im 23 0) then zeRun 82 29 [some (.ref 23), some (.int l1)] [] (zk B im lm) else zeRun 82 31 [some (.ref 23), some (.int l1)] [] (zk B im lm) := ze_if (ok := true) rfl 3 rfl rfl
theorem d_82_29 {B : zeB} {im : Nat → Nat → Int32} {lm : Nat → Nat → Int64} (o0 : Option Value) (l1 : Int32)  : zeRun 82 29 [o0, some (.int l1)] [] (zk B im lm) = some (some (.int l1), (zk B im lm)) := ze_ret (ok := true) rfl 2 rfl rfl
def F_82_2  : Nat → Int32 → zI → zJ → zR
  | 0, _, _, _ => none
  | n + 1, l1, im, lm =>
    if 6 ≤ l1 then
      some ((-10000005), im, lm)
    else
      zCk (zeInb l1 6) <|
      if (im 24 (Int32.toNatClampNeg l1)) ≤ 0 then
        F_82_2  n (l1 + 1) im lm
      else
        zBd (m_81 l1 im lm) fun v1 im1 lm1 =>
        if v1 = (im1 23 0) then
          some (l1, im1, lm1)
        else
          F_82_2  n (l1 + 1) im1 lm1
theorem F_82_2_ok {B : zeB} : ∀ (n : Nat) (l1 : Int32)  (im : zI) (lm : zJ), zL B 1 (F_82_2  n l1 im lm) (zeRun 82 2 [some (.ref 23), some (.int l1)] [] (zk B im lm)) := by
  intro n
  induction n with
  | zero => intros; exact zL_none
  | succ n ih =>
    intro l1 im lm
    unfold F_82_2
    refine zL_if (d_82_2 _) (fun h => ?_) (fun h => ?_)
    · skip
      exact zL_ret (d_82_37 _ _)
    · skip
      refine zL_ck fun c1 => ?_
      refine zL_if (d_82_8 _ c1) (fun h => ?_) (fun h => ?_)
      · skip
        refine zL_eq (d_82_31 _) ?_
        exact ih _ _ _
      · skip
        refine zL_bd (d_82_17 _) (m_81_ok _ _ _) fun v1 im1 lm1 => ?_
        refine zL_if (d_82_22 _ _) (fun h => ?_) (fun h => ?_)
        · skip
          exact zL_ret (d_82_29 _ _)
        · skip
          refine zL_eq (d_82_31 _) ?_
          exact ih _ _ _
def m_82  (im : zI) (lm : zJ) : zR :=
    F_82_2  2000 0 im lm
theorem m_82_ok {B : zeB}  (im : zI) (lm : zJ) : zL B 1 (m_82  im lm) (zeRun 82 0 [some (.ref 23), none] [] (zk B im lm)) := by
  unfold m_82
  refine zL_eq (d_82_0 _) ?_
  exact F_82_2_ok  _ _ _ _
/-! X7_count -/
theorem d_177_0 {B : zeB} {im : Nat → Nat → Int32} {lm : Nat → Nat → Int64} (l1 : Int32)  : zeRun 177 0 [some (.ref 16), some (.int l1)] [] (zk B im lm) = zeRun 177 (zeSw l1 216 [(0, 76), (1, 84), (2, 92), (3, 106), (4, 129), (5, 134), (6, 145), (7, 150), (8, 155), (9, 155), (10, 155), (11, 168), (12, 173), (13, 181), (14, 189)]) [some (.ref 16), some (.int l1)] [] (zk B im lm) := ze_go (ok := true) rfl 2 rfl rfl
theorem d_177_76 {B : zeB} {im : Nat → Nat → Int32} {lm : Nat → Nat → Int64} (o1 : Option Value)  : zeRun 177 76 [some (.ref 16), o1] [] (zk B im lm) = some (some (.int (im 17 0)), (zk B im lm)) := ze_ret (ok := true) rfl 4 rfl rfl
theorem d_177_84 {B : zeB} {im : Nat → Nat → Int32} {lm : Nat → Nat → Int64} (o1 : Option Value)  : zeRun 177 84 [some (.ref 16), o1] [] (zk B im lm) = some (some (.int (im 17 1)), (zk B im lm)) := ze_ret (ok := true) rfl 4 rfl rfl
theorem d_177_92 {B : zeB} {im : Nat → Nat → Int32} {lm : Nat → Nat → Int64} (o1 : Option Value)  : zeRun 177 92 [some (.ref 16), o1] [] (zk B im lm) = zeBh 177 104 [some (.ref 16), o1] [.int 25] (zeRun 29 0 [some (.int (im 17 3))] [] (zk B im lm)) := ze_call (ok := true) rfl 5 rfl rfl rfl
theorem d_177_104 {B : zeB} {im : Nat → Nat → Int32} {lm : Nat → Nat → Int64} (o0 : Option Value) (o1 : Option Value) (s0 : Int32) (s1 : Int32)  : zeRun 177 104 [o0, o1] [.int s1, .int s0] (zk B im lm) = some (some (.int (s0 - s1)), (zk B im lm)) := ze_ret (ok := true) rfl 2 rfl rfl
theorem d_177_106 {B : zeB} {im : Nat → Nat → Int32} {lm : Nat → Nat → Int64} (o1 : Option Value)  : zeRun 177 106 [some (.ref 16), o1] [] (zk B im lm) = zeBh 177 110 [some (.ref 16), o1] [] (zeRun 174 0 [some (.ref 16)] [] (zk B im lm)) := ze_call (ok := true) rfl 2 rfl rfl rfl
theorem d_177_110 {B : zeB} {im : Nat → Nat → Int32} {lm : Nat → Nat → Int64} (o1 : Option Value) (s0 : Int32)  : zeRun 177 110 [some (.ref 16), o1] [.int s0] (zk B im lm) = if s0 = 0 then zeRun 177 126 [some (.ref 16), o1] [] (zk B im lm) else zeRun 177 113 [some (.ref 16), o1] [] (zk B im lm) := ze_if (ok := true) rfl 1 rfl rfl
theorem d_177_126 {B : zeB} {im : Nat → Nat → Int32} {lm : Nat → Nat → Int64} (o0 : Option Value) (o1 : Option Value)  : zeRun 177 126 [o0, o1] [] (zk B im lm) = some (some (.int (-10000005)), (zk B im lm)) := ze_ret (ok := true) rfl 2 rfl rfl
theorem d_177_113 {B : zeB} {im : Nat → Nat → Int32} {lm : Nat → Nat → Int64} (o1 : Option Value)  : zeRun 177 113 [some (.ref 16), o1] [] (zk B im lm) = some (some (.int (im 19 0)), (zk B im lm)) := ze_ret (ok := true) rfl 6 rfl rfl
theorem d_177_129 {B : zeB} {im : Nat → Nat → Int32} {lm : Nat → Nat → Int64} (o1 : Option Value)  : zeRun 177 129 [some (.ref 16), o1] [] (zk B im lm) = zeBh 177 133 [some (.ref 16), o1] [] (zeRun 39 0 [some (.ref 16)] [] (zk B im lm)) := ze_call (ok := true) rfl 2 rfl rfl rfl
theorem d_177_133 {B : zeB} {im : Nat → Nat → Int32} {lm : Nat → Nat → Int64} (o0 : Option Value) (o1 : Option Value) (s0 : Int32)  : zeRun 177 133 [o0, o1] [.int s0] (zk B im lm) = some (some (.int s0), (zk B im lm)) := ze_ret (ok := true) rfl 1 rfl rfl
theorem d_177_134 {B : zeB} {im : Nat → Nat → Int32} {lm : Nat → Nat → Int64} (o1 : Option Value)  : zeRun 177 134 [some (.ref 16), o1] [] (zk B im lm) = some (some (.int (im 26 0)), (zk B im lm)) := ze_ret (ok := true) rfl 5 rfl rfl
theorem d_177_145 {B : zeB} {im : Nat → Nat → Int32} {lm : Nat → Nat → Int64} (o1 : Option Value)  : zeRun 177 145 [some (.ref 16), o1] [] (zk B im lm) = zeBh 177 149 [some (.ref 16), o1] [] (zeRun 175 0 [some (.ref 16), none, none] [] (zk B im lm)) := ze_call (ok := true) rfl 2 rfl rfl rfl
theorem d_177_149 {B : zeB} {im : Nat → Nat → Int32} {lm : Nat → Nat → Int64} (o0 : Option Value) (o1 : Option Value) (s0 : Int32)  : zeRun 177 149 [o0, o1] [.int s0] (zk B im lm) = some (some (.int s0), (zk B im lm)) := ze_ret (ok := true) rfl 1 rfl rfl
theorem d_177_150 {B : zeB} {im : Nat → Nat → Int32} {lm : Nat → Nat → Int64} (o1 : Option Value)  : zeRun 177 150 [some (.ref 16), o1] [] (zk B im lm) = zeBh 177 154 [some (.ref 16), o1] [] (zeRun 176 0 [some (.ref 16), none, none] [] (zk B im lm)) := ze_call (ok := true) rfl 2 rfl rfl rfl
theorem d_177_154 {B : zeB} {im : Nat → Nat → Int32} {lm : Nat → Nat → Int64} (o0 : Option Value) (o1 : Option Value) (s0 : Int32)  : zeRun 177 154 [o0, o1] [.int s0] (zk B im lm) = some (some (.int s0), (zk B im lm)) := ze_ret (ok := true) rfl 1 rfl rfl
theorem d_177_155 {B : zeB} {im : Nat → Nat → Int32} {lm : Nat → Nat → Int64} (l1 : Int32) (c0 : zeInb (l1 - 8) 3 = true) : zeRun 177 155 [some (.ref 16), some (.int l1)] [] (zk B im lm) = some (some (.int (im 18 (Int32.toNatClampNeg (l1 - 8)))), (zk B im lm)) := ze_ret (ok := (zeInb (l1 - 8) 3 && true)) rfl 8 rfl (zeA2 c0 rfl)
theorem d_177_168 {B : zeB} {im : Nat → Nat → Int32} {lm : Nat → Nat → Int64} (o1 : Option Value)  : zeRun 177 168 [some (.ref 16), o1] [] (zk B im lm) = some (some (.int (im 16 7)), (zk B im lm)) := ze_ret (ok := true) rfl 3 rfl rfl
theorem d_177_173 {B : zeB} {im : Nat → Nat → Int32} {lm : Nat → Nat → Int64} (o1 : Option Value)  : zeRun 177 173 [some (.ref 16), o1] [] (zk B im lm) = some (some (.int (im 42 0)), (zk B im lm)) := ze_ret (ok := true) rfl 4 rfl rfl
theorem d_177_181 {B : zeB} {im : Nat → Nat → Int32} {lm : Nat → Nat → Int64} (o1 : Option Value)  : zeRun 177 181 [some (.ref 16), o1] [] (zk B im lm) = some (some (.int (im 166 0)), (zk B im lm)) := ze_ret (ok := true) rfl 4 rfl rfl
theorem d_177_189 {B : zeB} {im : Nat → Nat → Int32} {lm : Nat → Nat → Int64} (o1 : Option Value)  : zeRun 177 189 [some (.ref 16), o1] [] (zk B im lm) = if (im 17 0) = 5 then zeRun 177 200 [some (.ref 16), o1] [] (zk B im lm) else zeRun 177 213 [some (.ref 16), o1] [] (zk B im lm) := ze_if (ok := true) rfl 5 rfl rfl
theorem d_177_200 {B : zeB} {im : Nat → Nat → Int32} {lm : Nat → Nat → Int64} (o1 : Option Value)  : zeRun 177 200 [some (.ref 16), o1] [] (zk B im lm) = zeBh 177 210 [some (.ref 16), o1] [] (zeRun 82 0 [some (.ref 23), none] [] (zk B im lm)) := ze_call (ok := true) rfl 4 rfl rfl rfl
theorem d_177_210 {B : zeB} {im : Nat → Nat → Int32} {lm : Nat → Nat → Int64} (o0 : Option Value) (o1 : Option Value) (s0 : Int32)  : zeRun 177 210 [o0, o1] [.int s0] (zk B im lm) = some (some (.int s0), (zk B im lm)) := ze_ret (ok := true) rfl 2 rfl rfl
theorem d_177_213 {B : zeB} {im : Nat → Nat → Int32} {lm : Nat → Nat → Int64} (o0 : Option Value) (o1 : Option Value)  : zeRun 177 213 [o0, o1] [] (zk B im lm) = some (some (.int (-10000005)), (zk B im lm)) := ze_ret (ok := true) rfl 2 rfl rfl
theorem d_177_216 {B : zeB} {im : Nat → Nat → Int32} {lm : Nat → Nat → Int64} (o0 : Option Value) (o1 : Option Value)  : zeRun 177 216 [o0, o1] [] (zk B im lm) = some (some (.int (-10000002)), (zk B im lm)) := ze_ret (ok := true) rfl 2 rfl rfl
def m_177 (l1 : Int32) (im : zI) (lm : zJ) : zR :=
    if l1 = 0 then
      some ((im 17 0), im, lm)
    else
      if l1 = 1 then
        some ((im 17 1), im, lm)
      else
        if l1 = 2 then
          zBd (m_29 (im 17 3) im lm) fun v1 im1 lm1 =>
          some ((25 - v1), im1, lm1)
        else
          if l1 = 3 then
            some (if (if (im 17 0) = 1 then 1 else if (im 17 0) = 2 then 1 else if (im 17 0) = 3 then 1 else 0 : Int32) = 0 then (-10000005) else (im 19 0), im, lm)
          else
            if l1 = 4 then
              some ((if (im 17 1) = 0 then (-10000005) else (im 32 0) : Int32), im, lm)
            else
              if l1 = 5 then
                some ((im 26 0), im, lm)
              else
                if l1 = 6 then
                  zBd (m_175  im lm) fun v4 im4 lm4 =>
                  some (v4, im4, lm4)
                else
                  if l1 = 7 then
                    zBd (m_176  im lm) fun v5 im5 lm5 =>
                    some (v5, im5, lm5)
                  else
                    if l1 = 8 then
                      zCk (zeInb (l1 - 8) 3) <|
                      some ((im 18 (Int32.toNatClampNeg (l1 - 8))), im, lm)
                    else
                      if l1 = 9 then
                        zCk (zeInb (l1 - 8) 3) <|
                        some ((im 18 (Int32.toNatClampNeg (l1 - 8))), im, lm)
                      else
                        if l1 = 10 then
                          zCk (zeInb (l1 - 8) 3) <|
                          some ((im 18 (Int32.toNatClampNeg (l1 - 8))), im, lm)
                        else
                          if l1 = 11 then
                            some ((im 16 7), im, lm)
                          else
                            if l1 = 12 then
                              some ((im 42 0), im, lm)
                            else
                              if l1 = 13 then
                                some ((im 166 0), im, lm)
                              else
                                if l1 = 14 then
                                  if (im 17 0) = 5 then
                                    zBd (m_82  im lm) fun v6 im6 lm6 =>
                                    some (v6, im6, lm6)
                                  else
                                    some ((-10000005), im, lm)
                                else
                                  some ((-10000002), im, lm)
theorem m_177_ok {B : zeB} (l1 : Int32) (im : zI) (lm : zJ) : zL B 1 (m_177 l1 im lm) (zeRun 177 0 [some (.ref 16), some (.int l1)] [] (zk B im lm)) := by
  unfold m_177
  refine zL_eq (d_177_0 _) ?_
  refine zL_sw (fun h => ?_) (fun h => ?_)
  · skip
    exact zL_ret (d_177_76 _)
  refine zL_sw (fun h => ?_) (fun h => ?_)
  · skip
    exact zL_ret (d_177_84 _)
  refine zL_sw (fun h => ?_) (fun h => ?_)
  · skip
    refine zL_bd (d_177_92 _) (m_29_ok _ _ _) fun v1 im1 lm1 => ?_
    exact zL_ret (d_177_104 _ _ _ _)
  refine zL_sw (fun h => ?_) (fun h => ?_)
  · skip
    refine zL_bdp (e := (if (im 17 0) = 1 then 1 else if (im 17 0) = 2 then 1 else if (im 17 0) = 3 then 1 else 0 : Int32)) (d_177_106 _) (m_174_ok _ _) ?_
    refine zL_ifm (d_177_110 _ _) (fun h => ?_) (fun h => ?_)
    · repeat rw [if_pos h]
      exact zL_ret (d_177_126 _ _)
    · repeat rw [if_neg h]
      exact zL_ret (d_177_113 _)
  refine zL_sw (fun h => ?_) (fun h => ?_)
  · skip
    refine zL_bdp (e := (if (im 17 1) = 0 then (-10000005) else (im 32 0) : Int32)) (d_177_129 _) (m_39_ok _ _) ?_
    exact zL_ret (d_177_133 _ _ _)
  refine zL_sw (fun h => ?_) (fun h => ?_)
  · skip
    exact zL_ret (d_177_134 _)
  refine zL_sw (fun h => ?_) (fun h => ?_)
  · skip
    refine zL_bd (d_177_145 _) (m_175_ok _ _) fun v4 im4 lm4 => ?_
    exact zL_ret (d_177_149 _ _ _)
  refine zL_sw (fun h => ?_) (fun h => ?_)
  · skip
    refine zL_bd (d_177_150 _) (m_176_ok _ _) fun v5 im5 lm5 => ?_
    exact zL_ret (d_177_154 _ _ _)
  refine zL_sw (fun h => ?_) (fun h => ?_)
  · skip
    refine zL_ck fun c1 => ?_
    exact zL_ret (d_177_155 _ c1)
  refine zL_sw (fun h => ?_) (fun h => ?_)
  · skip
    refine zL_ck fun c2 => ?_
    exact zL_ret (d_177_155 _ c2)
  refine zL_sw (fun h => ?_) (fun h => ?_)
  · skip
    refine zL_ck fun c3 => ?_
    exact zL_ret (d_177_155 _ c3)
  refine zL_sw (fun h => ?_) (fun h => ?_)
  · skip
    exact zL_ret (d_177_168 _)
  refine zL_sw (fun h => ?_) (fun h => ?_)
  · skip
    exact zL_ret (d_177_173 _)
  refine zL_sw (fun h => ?_) (fun h => ?_)
  · skip
    exact zL_ret (d_177_181 _)
  refine zL_sw (fun h => ?_) (fun h => ?_)
  · skip
    refine zL_if (d_177_189 _) (fun h => ?_) (fun h => ?_)
    · skip
      refine zL_bd (d_177_200 _) (m_82_ok _ _) fun v6 im6 lm6 => ?_
      exact zL_ret (d_177_210 _ _ _)
    · skip
      exact zL_ret (d_177_213 _ _)
  refine zL_swd ?_
  exact zL_ret (d_177_216 _ _)
/-! X7_isPlayer -/
theorem d_38_0 {B : zeB} {im : Nat → Nat → Int32} {lm : Nat → Nat → Int64} (l1 : Int32)  : zeRun 38 0 [some (.ref 16), some (.int l1)] [] (zk B im lm) = if l1 < 0 then zeRun 38 19 [some (.ref 16), some (.int l1)] [] (zk B im lm) else zeRun 38 4 [some (.ref 16), some (.int l1)] [] (zk B im lm) := ze_if (ok := true) rfl 2 rfl rfl
theorem d_38_19 {B : zeB} {im : Nat → Nat → Int32} {lm : Nat → Nat → Int64} (o0 : Option Value) (o1 : Option Value)  : zeRun 38 19 [o0, o1] [] (zk B im lm) = some (some (.int 0), (zk B im lm)) := ze_ret (ok := true) rfl 2 rfl rfl
theorem d_38_4 {B : zeB} {im : Nat → Nat → Int32} {lm : Nat → Nat → Int64} (l1 : Int32)  : zeRun 38 4 [some (.ref 16), some (.int l1)] [] (zk B im lm) = if (im 17 1) ≤ l1 then zeRun 38 19 [some (.ref 16), some (.int l1)] [] (zk B im lm) else zeRun 38 15 [some (.ref 16), some (.int l1)] [] (zk B im lm) := ze_if (ok := true) rfl 5 rfl rfl
theorem d_38_15 {B : zeB} {im : Nat → Nat → Int32} {lm : Nat → Nat → Int64} (o0 : Option Value) (o1 : Option Value)  : zeRun 38 15 [o0, o1] [] (zk B im lm) = some (some (.int 1), (zk B im lm)) := ze_ret (ok := true) rfl 3 rfl rfl
def m_38 (l1 : Int32) (im : zI) (lm : zJ) : zR :=
    some (if l1 < 0 then 0 else if (im 17 1) ≤ l1 then 0 else 1, im, lm)
theorem m_38_ok {B : zeB} (l1 : Int32) (im : zI) (lm : zJ) : zL B 1 (m_38 l1 im lm) (zeRun 38 0 [some (.ref 16), some (.int l1)] [] (zk B im lm)) := by
  unfold m_38
  refine zL_ifm (d_38_0 _) (fun h => ?_) (fun h => ?_)
  · repeat rw [if_pos h]
    exact zL_ret (d_38_19 _ _)
  · repeat rw [if_neg h]
    refine zL_ifm (d_38_4 _) (fun h => ?_) (fun h => ?_)
    · repeat rw [if_pos h]
      exact zL_ret (d_38_19 _ _)
    · repeat rw [if_neg h]
      exact zL_ret (d_38_15 _ _)
/-! X7_bitOf -/
theorem d_28_0 {B : zeB} {im : Nat → Nat → Int32} {lm : Nat → Nat → Int64} (l0 : Int32) (l1 : Int32)  : zeRun 28 0 [some (.int l0), some (.int l1)] [] (zk B im lm) = some (some (.int ((l0 >>> (l1 &&& 31)) &&& 1)), (zk B im lm)) := ze_ret (ok := true) rfl 6 rfl rfl
def m_28 (l0 : Int32) (l1 : Int32) (im : zI) (lm : zJ) : zR :=
    some (((l0 >>> (l1 &&& 31)) &&& 1), im, lm)
theorem m_28_ok {B : zeB} (l0 : Int32) (l1 : Int32) (im : zI) (lm : zJ) : zL B 1 (m_28 l0 l1 im lm) (zeRun 28 0 [some (.int l0), some (.int l1)] [] (zk B im lm)) := by
  unfold m_28
  exact zL_ret (d_28_0 _ _)
/-! X3_begin -/
theorem d_40_0 {B : zeB} {im : Nat → Nat → Int32} {lm : Nat → Nat → Int64} (l1 : Int32) (l2 : Int32) (l3 : Int32) (o4 : Option Value)  : zeRun 40 0 [some (.ref 19), some (.int l1), some (.int l2), some (.int l3), o4] [] (zk B im lm) = zeRun 40 28 [some (.ref 19), some (.int l1), some (.int l2), some (.int l3), some (.int 0)] [] (zk B (zeU2 (zeU2 (zeU2 (zeU2 (zeU2 im 19 0 l1) 19 1 l2) 19 2 l3) 19 3 0) 19 4 0) lm) := ze_go (ok := true) rfl 17 rfl rfl
theorem d_40_28 {B : zeB} {im : Nat → Nat → Int32} {lm : Nat → Nat → Int64} (o1 : Option Value) (o2 : Option Value) (o3 : Option Value) (l4 : Int32)  : zeRun 40 28 [some (.ref 19), o1, o2, o3, some (.int l4)] [] (zk B im lm) = if 6 ≤ l4 then zeRun 40 66 [some (.ref 19), o1, o2, o3, some (.int l4)] [] (zk B im lm) else zeRun 40 35 [some (.ref 19), o1, o2, o3, some (.int l4)] [] (zk B im lm) := ze_if (ok := true) rfl 3 rfl rfl
theorem d_40_66 {B : zeB} {im : Nat → Nat → Int32} {lm : Nat → Nat → Int64} (o0 : Option Value) (o1 : Option Value) (o2 : Option Value) (o3 : Option Value) (o4 : Option Value)  : zeRun 40 66 [o0, o1, o2, o3, o4] [] (zk B im lm) = some (none, (zk B im lm)) := ze_ret (ok := true) rfl 1 rfl rfl
theorem d_40_35 {B : zeB} {im : Nat → Nat → Int32} {lm : Nat → Nat → Int64} (o1 : Option Value) (o2 : Option Value) (o3 : Option Value) (l4 : Int32) (c0 : zeInb l4 6 = true) (c1 : zeInb l4 6 = true) (c2 : zeInb l4 6 = true) : zeRun 40 35 [some (.ref 19), o1, o2, o3, some (.int l4)] [] (zk B im lm) = zeRun 40 28 [some (.ref 19), o1, o2, o3, some (.int (l4 + 1))] [] (zk B (zeU2 im 20 (Int32.toNatClampNeg l4) (-10000005)) (zeU2 (zeU2 lm 21 (Int32.toNatClampNeg l4) 0) 22 (Int32.toNatClampNeg l4) 0)) := ze_go (ok := (zeInb l4 6 && (zeInb l4 6 && (zeInb l4 6 && true)))) rfl 17 rfl (zeA2 c2 (zeA2 c1 (zeA2 c0 rfl)))
def F_40_28  : Nat → Int32 → zI → zJ → zR
  | 0, _, _, _ => none
  | n + 1, l4, im, lm =>
    if 6 ≤ l4 then
      some (0, im, lm)
    else
      zCk (zeInb l4 6) <|
      F_40_28  n (l4 + 1) (zeU2 im 20 (Int32.toNatClampNeg l4) (-10000005)) (zeU2 (zeU2 lm 21 (Int32.toNatClampNeg l4) 0) 22 (Int32.toNatClampNeg l4) 0)
theorem F_40_28_ok {B : zeB} : ∀ (n : Nat) (l4 : Int32) (o1 : Option Value) (o2 : Option Value) (o3 : Option Value) (im : zI) (lm : zJ), zL B 0 (F_40_28  n l4 im lm) (zeRun 40 28 [some (.ref 19), o1, o2, o3, some (.int l4)] [] (zk B im lm)) := by
  intro n
  induction n with
  | zero => intros; exact zL_none
  | succ n ih =>
    intro l4 o1 o2 o3 im lm
    unfold F_40_28
    refine zL_if (d_40_28 _ _ _ _) (fun h => ?_) (fun h => ?_)
    · skip
      exact zL_retv (d_40_66 _ _ _ _ _)
    · skip
      refine zL_ck fun c1 => ?_
      refine zL_eq (d_40_35 _ _ _ _ c1 c1 c1) ?_
      exact ih _ _ _ _ _ _
def m_40 (l1 : Int32) (l2 : Int32) (l3 : Int32) (im : zI) (lm : zJ) : zR :=
    F_40_28  2000 0 (zeU2 (zeU2 (zeU2 (zeU2 (zeU2 im 19 0 l1) 19 1 l2) 19 2 l3) 19 3 0) 19 4 0) lm
theorem m_40_ok {B : zeB} (l1 : Int32) (l2 : Int32) (l3 : Int32) (im : zI) (lm : zJ) : zL B 0 (m_40 l1 l2 l3 im lm) (zeRun 40 0 [some (.ref 19), some (.int l1), some (.int l2), some (.int l3), none] [] (zk B im lm)) := by
  unfold m_40
  refine zL_eq (d_40_0 _ _ _ _) ?_
  exact F_40_28_ok  _ _ _ _ _ _ _
/-! X7_valueOf -/
theorem d_41_0 {B : zeB} {im : Nat → Nat → Int32} {lm : Nat → Nat → Int64} (l0 : Int32)  : zeRun 41 0 [some (.int l0)] [] (zk B im lm) = some (some (.int (100 * ((l0 / 5) + 1))), (zk B im lm)) := ze_ret (ok := true) rfl 8 rfl rfl
def m_41 (l0 : Int32) (im : zI) (lm : zJ) : zR :=
    some ((100 * ((l0 / 5) + 1)), im, lm)
theorem m_41_ok {B : zeB} (l0 : Int32) (im : zI) (lm : zJ) : zL B 1 (m_41 l0 im lm) (zeRun 41 0 [some (.int l0)] [] (zk B im lm)) := by
  unfold m_41
  exact zL_ret (d_41_0 _)
/-! X7_doPick -/
theorem d_42_0 {B : zeB} {im : Nat → Nat → Int32} {lm : Nat → Nat → Int64} (l1 : Int32) (l2 : Int32)  : zeRun 42 0 [some (.ref 16), some (.int l1), some (.int l2)] [] (zk B im lm) = zeBh 42 5 [some (.ref 16), some (.int l1), some (.int l2)] [] (zeRun 38 0 [some (.ref 16), some (.int l1)] [] (zk B im lm)) := ze_call (ok := true) rfl 3 rfl rfl rfl
theorem d_42_5 {B : zeB} {im : Nat → Nat → Int32} {lm : Nat → Nat → Int64} (l1 : Int32) (l2 : Int32) (s0 : Int32)  : zeRun 42 5 [some (.ref 16), some (.int l1), some (.int l2)] [.int s0] (zk B im lm) = if s0 = 0 then zeRun 42 15 [some (.ref 16), some (.int l1), some (.int l2)] [] (zk B im lm) else zeRun 42 8 [some (.ref 16), some (.int l1), some (.int l2)] [] (zk B im lm) := ze_if (ok := true) rfl 1 rfl rfl
theorem d_42_15 {B : zeB} {im : Nat → Nat → Int32} {lm : Nat → Nat → Int64} (o0 : Option Value) (o1 : Option Value) (o2 : Option Value)  : zeRun 42 15 [o0, o1, o2] [] (zk B im lm) = some (some (.int (-10000001)), (zk B im lm)) := ze_ret (ok := true) rfl 2 rfl rfl
theorem d_42_8 {B : zeB} {im : Nat → Nat → Int32} {lm : Nat → Nat → Int64} (l1 : Int32) (l2 : Int32)  : zeRun 42 8 [some (.ref 16), some (.int l1), some (.int l2)] [] (zk B im lm) = zeBh 42 12 [some (.ref 16), some (.int l1), some (.int l2)] [] (zeRun 27 0 [some (.int l2)] [] (zk B im lm)) := ze_call (ok := true) rfl 2 rfl rfl rfl
theorem d_42_12 {B : zeB} {im : Nat → Nat → Int32} {lm : Nat → Nat → Int64} (l1 : Int32) (l2 : Int32) (s0 : Int32)  : zeRun 42 12 [some (.ref 16), some (.int l1), some (.int l2)] [.int s0] (zk B im lm) = if s0 = 0 then zeRun 42 15 [some (.ref 16), some (.int l1), some (.int l2)] [] (zk B im lm) else zeRun 42 18 [some (.ref 16), some (.int l1), some (.int l2)] [] (zk B im lm) := ze_if (ok := true) rfl 1 rfl rfl
theorem d_42_18 {B : zeB} {im : Nat → Nat → Int32} {lm : Nat → Nat → Int64} (l1 : Int32) (l2 : Int32)  : zeRun 42 18 [some (.ref 16), some (.int l1), some (.int l2)] [] (zk B im lm) = if (im 17 0) = 0 then zeRun 42 34 [some (.ref 16), some (.int l1), some (.int l2)] [] (zk B im lm) else zeRun 42 28 [some (.ref 16), some (.int l1), some (.int l2)] [] (zk B im lm) := ze_if (ok := true) rfl 4 rfl rfl
theorem d_42_34 {B : zeB} {im : Nat → Nat → Int32} {lm : Nat → Nat → Int64} (l1 : Int32) (l2 : Int32)  : zeRun 42 34 [some (.ref 16), some (.int l1), some (.int l2)] [] (zk B im lm) = zeBh 42 39 [some (.ref 16), some (.int l1), some (.int l2)] [.int l1] (zeRun 39 0 [some (.ref 16)] [] (zk B im lm)) := ze_call (ok := true) rfl 3 rfl rfl rfl
theorem d_42_39 {B : zeB} {im : Nat → Nat → Int32} {lm : Nat → Nat → Int64} (o1 : Option Value) (l2 : Int32) (s0 : Int32) (s1 : Int32)  : zeRun 42 39 [some (.ref 16), o1, some (.int l2)] [.int s1, .int s0] (zk B im lm) = if s0 = s1 then zeRun 42 48 [some (.ref 16), o1, some (.int l2)] [] (zk B im lm) else zeRun 42 42 [some (.ref 16), o1, some (.int l2)] [] (zk B im lm) := ze_if (ok := true) rfl 1 rfl rfl
theorem d_42_48 {B : zeB} {im : Nat → Nat → Int32} {lm : Nat → Nat → Int64} (o1 : Option Value) (l2 : Int32)  : zeRun 42 48 [some (.ref 16), o1, some (.int l2)] [] (zk B im lm) = zeBh 42 59 [some (.ref 16), o1, some (.int l2)] [] (zeRun 28 0 [some (.int (im 17 3)), some (.int l2)] [] (zk B im lm)) := ze_call (ok := true) rfl 5 rfl rfl rfl
theorem d_42_59 {B : zeB} {im : Nat → Nat → Int32} {lm : Nat → Nat → Int64} (o1 : Option Value) (l2 : Int32) (s0 : Int32)  : zeRun 42 59 [some (.ref 16), o1, some (.int l2)] [.int s0] (zk B im lm) = if s0 = 1 then zeRun 42 63 [some (.ref 16), o1, some (.int l2)] [] (zk B im lm) else zeRun 42 69 [some (.ref 16), o1, some (.int l2)] [] (zk B im lm) := ze_if (ok := true) rfl 2 rfl rfl
theorem d_42_63 {B : zeB} {im : Nat → Nat → Int32} {lm : Nat → Nat → Int64} (o1 : Option Value) (o2 : Option Value)  : zeRun 42 63 [some (.ref 16), o1, o2] [] (zk B im lm) = zeBh 42 68 [some (.ref 16), o1, o2] [] (zeRun 17 0 [some (.ref 16), some (.int 3)] [] (zk B im lm)) := ze_call (ok := true) rfl 3 rfl rfl rfl
theorem d_42_68 {B : zeB} {im : Nat → Nat → Int32} {lm : Nat → Nat → Int64} (o0 : Option Value) (o1 : Option Value) (o2 : Option Value) (s0 : Int32)  : zeRun 42 68 [o0, o1, o2] [.int s0] (zk B im lm) = some (some (.int s0), (zk B im lm)) := ze_ret (ok := true) rfl 1 rfl rfl
theorem d_42_69 {B : zeB} {im : Nat → Nat → Int32} {lm : Nat → Nat → Int64} (o1 : Option Value) (l2 : Int32)  : zeRun 42 69 [some (.ref 16), o1, some (.int l2)] [] (zk B im lm) = zeBh 42 113 [some (.ref 16), o1, some (.int l2)] [] (zeRun 40 0 [some (.ref 19), some (.int l2), some (.int (im 18 0)), some (.int (im 18 1)), none] [] (zk B (zeU2 im 17 3 ((im 17 3) ||| (1 <<< (l2 &&& 31)))) lm)) := ze_call (ok := true) rfl 24 rfl rfl rfl
theorem d_42_113 {B : zeB} {im : Nat → Nat → Int32} {lm : Nat → Nat → Int64} (o1 : Option Value) (l2 : Int32)  : zeRun 42 113 [some (.ref 16), o1, some (.int l2)] [] (zk B im lm) = zeBh 42 128 [some (.ref 16), o1, some (.int l2)] [.ref 17] (zeRun 28 0 [some (.int (im 17 2)), some (.int l2)] [] (zk B im lm)) := ze_call (ok := true) rfl 7 rfl rfl rfl
theorem d_42_128 {B : zeB} {im : Nat → Nat → Int32} {lm : Nat → Nat → Int64} (o0 : Option Value) (o1 : Option Value) (l2 : Int32) (s1 : Int32)  : zeRun 42 128 [o0, o1, some (.int l2)] [.int s1, .ref 17] (zk B im lm) = if s1 = 1 then zeRun 42 132 [o0, o1, some (.int l2)] [.ref 17] (zk B im lm) else zeRun 42 136 [o0, o1, some (.int l2)] [.ref 17] (zk B im lm) := ze_if (ok := true) rfl 2 rfl rfl
theorem d_42_132 {B : zeB} {im : Nat → Nat → Int32} {lm : Nat → Nat → Int64} (o0 : Option Value) (o1 : Option Value) (l2 : Int32)  : zeRun 42 132 [o0, o1, some (.int l2)] [.ref 17] (zk B im lm) = zeRun 42 137 [o0, o1, some (.int l2)] [.int 2, .ref 17] (zk B im lm) := ze_go (ok := true) rfl 2 rfl rfl
theorem d_42_136 {B : zeB} {im : Nat → Nat → Int32} {lm : Nat → Nat → Int64} (o0 : Option Value) (o1 : Option Value) (l2 : Int32)  : zeRun 42 136 [o0, o1, some (.int l2)] [.ref 17] (zk B im lm) = zeRun 42 137 [o0, o1, some (.int l2)] [.int 1, .ref 17] (zk B im lm) := ze_go (ok := true) rfl 1 rfl rfl
theorem d_42_42 {B : zeB} {im : Nat → Nat → Int32} {lm : Nat → Nat → Int64} (o1 : Option Value) (o2 : Option Value)  : zeRun 42 42 [some (.ref 16), o1, o2] [] (zk B im lm) = zeBh 42 47 [some (.ref 16), o1, o2] [] (zeRun 17 0 [some (.ref 16), some (.int 2)] [] (zk B im lm)) := ze_call (ok := true) rfl 3 rfl rfl rfl
theorem d_42_47 {B : zeB} {im : Nat → Nat → Int32} {lm : Nat → Nat → Int64} (o0 : Option Value) (o1 : Option Value) (o2 : Option Value) (s0 : Int32)  : zeRun 42 47 [o0, o1, o2] [.int s0] (zk B im lm) = some (some (.int s0), (zk B im lm)) := ze_ret (ok := true) rfl 1 rfl rfl
theorem d_42_28 {B : zeB} {im : Nat → Nat → Int32} {lm : Nat → Nat → Int64} (o1 : Option Value) (o2 : Option Value)  : zeRun 42 28 [some (.ref 16), o1, o2] [] (zk B im lm) = zeBh 42 33 [some (.ref 16), o1, o2] [] (zeRun 17 0 [some (.ref 16), some (.int 1)] [] (zk B im lm)) := ze_call (ok := true) rfl 3 rfl rfl rfl
theorem d_42_33 {B : zeB} {im : Nat → Nat → Int32} {lm : Nat → Nat → Int64} (o0 : Option Value) (o1 : Option Value) (o2 : Option Value) (s0 : Int32)  : zeRun 42 33 [o0, o1, o2] [.int s0] (zk B im lm) = some (some (.int s0), (zk B im lm)) := ze_ret (ok := true) rfl 1 rfl rfl
theorem d_42_137 {B : zeB} {im : Nat → Nat → Int32} {lm : Nat → Nat → Int64} (o0 : Option Value) (o1 : Option Value) (l2 : Int32) (s1 : Int32)  : zeRun 42 137 [o0, o1, some (.int l2)] [.int s1, .ref 17] (zk B im lm) = zeBh 42 144 [o0, o1, some (.int l2)] [] (zeRun 41 0 [some (.int l2)] [] (zk B (zeU2 im 17 0 s1) lm)) := ze_call (ok := true) rfl 3 rfl rfl rfl
theorem d_42_144 {B : zeB} {im : Nat → Nat → Int32} {lm : Nat → Nat → Int64} (o0 : Option Value) (o1 : Option Value) (o2 : Option Value) (s0 : Int32)  : zeRun 42 144 [o0, o1, o2] [.int s0] (zk B im lm) = some (some (.int s0), (zk B im lm)) := ze_ret (ok := true) rfl 1 rfl rfl
def J_42_137  (l2 : Int32) (s1 : Int32) (im : zI) (lm : zJ) : zR :=
    some (((100 * ((l2 / 5) + 1)) : Int32), (zeU2 im 17 0 s1), lm)
theorem J_42_137_ok {B : zeB} (l2 : Int32) (s1 : Int32) (o0 : Option Value) (o1 : Option Value) (im : zI) (lm : zJ) : zL B 1 (J_42_137  l2 s1 im lm) (zeRun 42 137 [o0, o1, some (.int l2)] [.int s1, .ref 17] (zk B im lm)) := by
  unfold J_42_137
  refine zL_bdp (e := ((100 * ((l2 / 5) + 1)) : Int32)) (d_42_137 _ _ _ _) (m_41_ok _ _ _) ?_
  exact zL_ret (d_42_144 _ _ _ _)
def m_42 (l1 : Int32) (l2 : Int32) (im : zI) (lm : zJ) : zR :=
    if (if l1 < 0 then 0 else if (im 17 1) ≤ l1 then 0 else 1 : Int32) = 0 then
      some ((-10000001), im, lm)
    else
      if (if l2 < 0 then 0 else if 25 ≤ l2 then 0 else 1 : Int32) = 0 then
        some ((-10000001), im, lm)
      else
        if (im 17 0) = 0 then
          if l1 = (if (im 17 1) = 0 then (-10000005) else (im 32 0) : Int32) then
            if ((((im 17 3) >>> (l2 &&& 31)) &&& 1) : Int32) = 1 then
              zBd (m_17 3 im lm) fun v5 im5 lm5 =>
              some (v5, im5, lm5)
            else
              zBd (m_40 l2 (im 18 0) (im 18 1) (zeU2 im 17 3 ((im 17 3) ||| (1 <<< (l2 &&& 31)))) lm) fun _ im6 lm6 =>
              J_42_137   l2 (if ((((im6 17 2) >>> (l2 &&& 31)) &&& 1) : Int32) = 1 then 2 else 1) im6 lm6
          else
            zBd (m_17 2 im lm) fun v8 im8 lm8 =>
            some (v8, im8, lm8)
        else
          zBd (m_17 1 im lm) fun v9 im9 lm9 =>
          some (v9, im9, lm9)
theorem m_42_ok {B : zeB} (l1 : Int32) (l2 : Int32) (im : zI) (lm : zJ) : zL B 1 (m_42 l1 l2 im lm) (zeRun 42 0 [some (.ref 16), some (.int l1), some (.int l2)] [] (zk B im lm)) := by
  unfold m_42
  refine zL_bdp (e := (if l1 < 0 then 0 else if (im 17 1) ≤ l1 then 0 else 1 : Int32)) (d_42_0 _ _) (m_38_ok _ _ _) ?_
  refine zL_if (d_42_5 _ _ _) (fun h => ?_) (fun h => ?_)
  · skip
    exact zL_ret (d_42_15 _ _ _)
  · skip
    refine zL_bdp (e := (if l2 < 0 then 0 else if 25 ≤ l2 then 0 else 1 : Int32)) (d_42_8 _ _) (m_27_ok _ _ _) ?_
    refine zL_if (d_42_12 _ _ _) (fun h => ?_) (fun h => ?_)
    · skip
      exact zL_ret (d_42_15 _ _ _)
    · skip
      refine zL_if (d_42_18 _ _) (fun h => ?_) (fun h => ?_)
      · skip
        refine zL_bdp (e := (if (im 17 1) = 0 then (-10000005) else (im 32 0) : Int32)) (d_42_34 _ _) (m_39_ok _ _) ?_
        refine zL_if (d_42_39 _ _ _ _) (fun h => ?_) (fun h => ?_)
        · skip
          refine zL_bdp (e := ((((im 17 3) >>> (l2 &&& 31)) &&& 1) : Int32)) (d_42_48 _ _) (m_28_ok _ _ _ _) ?_
          refine zL_if (d_42_59 _ _ _) (fun h => ?_) (fun h => ?_)
          · skip
            refine zL_bd (d_42_63 _ _) (m_17_ok _ _ _) fun v5 im5 lm5 => ?_
            exact zL_ret (d_42_68 _ _ _ _)
          · skip
            refine zL_bdv (d_42_69 _ _) (m_40_ok _ _ _ _ _) fun _ im6 lm6 => ?_
            refine zL_bdp (e := ((((im6 17 2) >>> (l2 &&& 31)) &&& 1) : Int32)) (d_42_113 _ _) (m_28_ok _ _ _ _) ?_
            refine zL_ifm (d_42_128 _ _ _ _) (fun h => ?_) (fun h => ?_)
            · repeat rw [if_pos h]
              refine zL_eq (d_42_132 _ _ _) ?_
              exact J_42_137_ok   _ _ _ _ _ _
            · repeat rw [if_neg h]
              refine zL_eq (d_42_136 _ _ _) ?_
              exact J_42_137_ok   _ _ _ _ _ _
        · skip
          refine zL_bd (d_42_42 _ _) (m_17_ok _ _ _) fun v8 im8 lm8 => ?_
          exact zL_ret (d_42_47 _ _ _ _)
      · skip
        refine zL_bd (d_42_28 _ _) (m_17_ok _ _ _) fun v9 im9 lm9 => ?_
        exact zL_ret (d_42_33 _ _ _ _)
/-! X7_pick -/
theorem d_43_0 {B : zeB} {im : Nat → Nat → Int32} {lm : Nat → Nat → Int64} (l1 : Int32) (l2 : Int32)  : zeRun 43 0 [some (.ref 16), some (.int l1), some (.int l2)] [] (zk B im lm) = zeBh 43 11 [some (.ref 16), some (.int l1), some (.int l2)] [] (zeRun 15 0 [some (.ref 42), some (.ref 17)] [] (zk B im lm)) := ze_call (ok := true) rfl 5 rfl rfl rfl
theorem d_43_11 {B : zeB} {im : Nat → Nat → Int32} {lm : Nat → Nat → Int64} (l1 : Int32) (l2 : Int32)  : zeRun 43 11 [some (.ref 16), some (.int l1), some (.int l2)] [] (zk B im lm) = zeBh 43 18 [some (.ref 16), some (.int l1), some (.int l2)] [.ref 16] (zeRun 42 0 [some (.ref 16), some (.int l1), some (.int l2)] [] (zk B im lm)) := ze_call (ok := true) rfl 5 rfl rfl rfl
theorem d_43_18 {B : zeB} {im : Nat → Nat → Int32} {lm : Nat → Nat → Int64} (o0 : Option Value) (o1 : Option Value) (o2 : Option Value) (s1 : Int32)  : zeRun 43 18 [o0, o1, o2] [.int s1, .ref 16] (zk B im lm) = zeBh 43 21 [o0, o1, o2] [] (zeRun 21 0 [some (.ref 16), some (.int s1)] [] (zk B im lm)) := ze_call (ok := true) rfl 1 rfl rfl rfl
theorem d_43_21 {B : zeB} {im : Nat → Nat → Int32} {lm : Nat → Nat → Int64} (o0 : Option Value) (o1 : Option Value) (o2 : Option Value) (s0 : Int32)  : zeRun 43 21 [o0, o1, o2] [.int s0] (zk B im lm) = some (some (.int s0), (zk B im lm)) := ze_ret (ok := true) rfl 1 rfl rfl
def m_43 (l1 : Int32) (l2 : Int32) (im : zI) (lm : zJ) : zR :=
    zBd (m_15  im lm) fun _ im1 lm1 =>
    zBd (m_42 l1 l2 im1 lm1) fun v2 im2 lm2 =>
    zBd (m_21 v2 im2 lm2) fun v3 im3 lm3 =>
    some (v3, im3, lm3)
theorem m_43_ok {B : zeB} (l1 : Int32) (l2 : Int32) (im : zI) (lm : zJ) : zL B 1 (m_43 l1 l2 im lm) (zeRun 43 0 [some (.ref 16), some (.int l1), some (.int l2)] [] (zk B im lm)) := by
  unfold m_43
  refine zL_bdv (d_43_0 _ _) (m_15_ok _ _) fun _ im1 lm1 => ?_
  refine zL_bd (d_43_11 _ _) (m_42_ok _ _ _ _) fun v2 im2 lm2 => ?_
  refine zL_bd (d_43_18 _ _ _ _) (m_21_ok _ _ _) fun v3 im3 lm3 => ?_
  exact zL_ret (d_43_21 _ _ _ _)
/-! L_low -/
theorem d_189_0 {B : zeB} {im : Nat → Nat → Int32} {lm : Nat → Nat → Int64} (l0 : Int32) (l1 : Int32) (c0 : (!(decide (l1 = 0))) = true) : zeRun 189 0 [some (.int l0), some (.int l1)] [] (zk B im lm) = some (some (.int (zfirem (l0 &&& 2147483647) l1)), (zk B im lm)) := ze_ret (ok := ((!(decide (l1 = 0))) && true)) rfl 6 rfl (zeA2 c0 rfl)
def m_189 (l0 : Int32) (l1 : Int32) (im : zI) (lm : zJ) : zR :=
    zCk ((!(decide (l1 = 0)))) <|
    some ((zfirem (l0 &&& 2147483647) l1), im, lm)
theorem m_189_ok {B : zeB} (l0 : Int32) (l1 : Int32) (im : zI) (lm : zJ) : zL B 1 (m_189 l0 l1 im lm) (zeRun 189 0 [some (.int l0), some (.int l1)] [] (zk B im lm)) := by
  unfold m_189
  refine zL_ck fun c1 => ?_
  exact zL_ret (d_189_0 _ _ c1)
/-! X7_isBeforeFirstPick -/
theorem d_16_0 {B : zeB} {im : Nat → Nat → Int32} {lm : Nat → Nat → Int64}   : zeRun 16 0 [some (.ref 16)] [] (zk B im lm) = if (im 17 0) = 0 then zeRun 16 10 [some (.ref 16)] [] (zk B im lm) else zeRun 16 24 [some (.ref 16)] [] (zk B im lm) := ze_if (ok := true) rfl 4 rfl rfl
theorem d_16_10 {B : zeB} {im : Nat → Nat → Int32} {lm : Nat → Nat → Int64}   : zeRun 16 10 [some (.ref 16)] [] (zk B im lm) = if (im 17 3) = 0 then zeRun 16 20 [some (.ref 16)] [] (zk B im lm) else zeRun 16 24 [some (.ref 16)] [] (zk B im lm) := ze_if (ok := true) rfl 4 rfl rfl
theorem d_16_20 {B : zeB} {im : Nat → Nat → Int32} {lm : Nat → Nat → Int64} (o0 : Option Value)  : zeRun 16 20 [o0] [] (zk B im lm) = some (some (.int 1), (zk B im lm)) := ze_ret (ok := true) rfl 3 rfl rfl
theorem d_16_24 {B : zeB} {im : Nat → Nat → Int32} {lm : Nat → Nat → Int64} (o0 : Option Value)  : zeRun 16 24 [o0] [] (zk B im lm) = some (some (.int 0), (zk B im lm)) := ze_ret (ok := true) rfl 2 rfl rfl
def m_16  (im : zI) (lm : zJ) : zR :=
    some (if (im 17 0) = 0 then if (im 17 3) = 0 then 1 else 0 else 0, im, lm)
theorem m_16_ok {B : zeB}  (im : zI) (lm : zJ) : zL B 1 (m_16  im lm) (zeRun 16 0 [some (.ref 16)] [] (zk B im lm)) := by
  unfold m_16
  refine zL_ifm d_16_0 (fun h => ?_) (fun h => ?_)
  · repeat rw [if_pos h]
    refine zL_ifm d_16_10 (fun h => ?_) (fun h => ?_)
    · repeat rw [if_pos h]
      exact zL_ret (d_16_20 _)
    · repeat rw [if_neg h]
      exact zL_ret (d_16_24 _)
  · repeat rw [if_neg h]
    exact zL_ret (d_16_24 _)
/-! X7_doAddPlayer -/
theorem d_18_0 {B : zeB} {im : Nat → Nat → Int32} {lm : Nat → Nat → Int64}   : zeRun 18 0 [some (.ref 16)] [] (zk B im lm) = zeBh 18 4 [some (.ref 16)] [] (zeRun 16 0 [some (.ref 16)] [] (zk B im lm)) := ze_call (ok := true) rfl 2 rfl rfl rfl
theorem d_18_4 {B : zeB} {im : Nat → Nat → Int32} {lm : Nat → Nat → Int64} (s0 : Int32)  : zeRun 18 4 [some (.ref 16)] [.int s0] (zk B im lm) = if s0 = 0 then zeRun 18 7 [some (.ref 16)] [] (zk B im lm) else zeRun 18 13 [some (.ref 16)] [] (zk B im lm) := ze_if (ok := true) rfl 1 rfl rfl
theorem d_18_7 {B : zeB} {im : Nat → Nat → Int32} {lm : Nat → Nat → Int64}   : zeRun 18 7 [some (.ref 16)] [] (zk B im lm) = zeBh 18 12 [some (.ref 16)] [] (zeRun 17 0 [some (.ref 16), some (.int 1)] [] (zk B im lm)) := ze_call (ok := true) rfl 3 rfl rfl rfl
theorem d_18_12 {B : zeB} {im : Nat → Nat → Int32} {lm : Nat → Nat → Int64} (o0 : Option Value) (s0 : Int32)  : zeRun 18 12 [o0] [.int s0] (zk B im lm) = some (some (.int s0), (zk B im lm)) := ze_ret (ok := true) rfl 1 rfl rfl
theorem d_18_13 {B : zeB} {im : Nat → Nat → Int32} {lm : Nat → Nat → Int64}   : zeRun 18 13 [some (.ref 16)] [] (zk B im lm) = if (im 17 1) < 6 then zeRun 18 28 [some (.ref 16)] [] (zk B im lm) else zeRun 18 25 [some (.ref 16)] [] (zk B im lm) := ze_if (ok := true) rfl 5 rfl rfl
theorem d_18_28 {B : zeB} {im : Nat → Nat → Int32} {lm : Nat → Nat → Int64}   : zeRun 18 28 [some (.ref 16)] [] (zk B im lm) = some (some (.int (((im 17 1) + 1) - 1)), (zk B (zeU2 im 17 1 ((im 17 1) + 1)) lm)) := ze_ret (ok := true) rfl 13 rfl rfl
theorem d_18_25 {B : zeB} {im : Nat → Nat → Int32} {lm : Nat → Nat → Int64} (o0 : Option Value)  : zeRun 18 25 [o0] [] (zk B im lm) = some (some (.int (-10000004)), (zk B im lm)) := ze_ret (ok := true) rfl 2 rfl rfl
def m_18  (im : zI) (lm : zJ) : zR :=
    if (if (im 17 0) = 0 then if (im 17 3) = 0 then 1 else 0 else 0 : Int32) = 0 then
      zBd (m_17 1 im lm) fun v2 im2 lm2 =>
      some (v2, im2, lm2)
    else
      some (if (im 17 1) < 6 then (((im 17 1) + 1) - 1) else (-10000004), if (im 17 1) < 6 then (zeU2 im 17 1 ((im 17 1) + 1)) else im, lm)
theorem m_18_ok {B : zeB}  (im : zI) (lm : zJ) : zL B 1 (m_18  im lm) (zeRun 18 0 [some (.ref 16)] [] (zk B im lm)) := by
  unfold m_18
  refine zL_bdp (e := (if (im 17 0) = 0 then if (im 17 3) = 0 then 1 else 0 else 0 : Int32)) d_18_0 (m_16_ok _ _) ?_
  refine zL_if (d_18_4 _) (fun h => ?_) (fun h => ?_)
  · skip
    refine zL_bd d_18_7 (m_17_ok _ _ _) fun v2 im2 lm2 => ?_
    exact zL_ret (d_18_12 _ _)
  · skip
    refine zL_ifm d_18_13 (fun h => ?_) (fun h => ?_)
    · repeat rw [if_pos h]
      exact zL_ret d_18_28
    · repeat rw [if_neg h]
      exact zL_ret (d_18_25 _)
