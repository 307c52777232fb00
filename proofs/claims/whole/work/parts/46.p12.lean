/-! pure: X5_isAllowed, X5_fault, X5_number, X7_doMove, X7_runScript, X8_digit -/
/-! X5_isAllowed -/
theorem d_133_0 {B : zeB} {im : Nat → Nat → Int32} {lm : Nat → Nat → Int64} (l1 : Int32) (l2 : Int32) (o3 : Option Value)  : zeRun 133 0 [some (.ref 166), some (.int l1), some (.int l2), o3] [] (zk B im lm) = if l2 = l1 then zeRun 133 5 [some (.ref 166), some (.int l1), some (.int l2), o3] [] (zk B im lm) else zeRun 133 19 [some (.ref 166), some (.int l1), some (.int l2), o3] [] (zk B im lm) := ze_if (ok := true) rfl 3 rfl rfl
theorem d_133_5 {B : zeB} {im : Nat → Nat → Int32} {lm : Nat → Nat → Int64} (l1 : Int32) (o2 : Option Value) (o3 : Option Value)  : zeRun 133 5 [some (.ref 166), some (.int l1), o2, o3] [] (zk B im lm) = zeBh 133 10 [some (.ref 166), some (.int l1), o2, o3] [] (zeRun 131 0 [some (.ref 166), some (.int l1)] [] (zk B im lm)) := ze_call (ok := true) rfl 3 rfl rfl rfl
theorem d_133_10 {B : zeB} {im : Nat → Nat → Int32} {lm : Nat → Nat → Int64} (o0 : Option Value) (o1 : Option Value) (o2 : Option Value) (o3 : Option Value) (s0 : Int32)  : zeRun 133 10 [o0, o1, o2, o3] [.int s0] (zk B im lm) = if s0 ≤ 0 then zeRun 133 17 [o0, o1, o2, o3] [] (zk B im lm) else zeRun 133 13 [o0, o1, o2, o3] [] (zk B im lm) := ze_if (ok := true) rfl 1 rfl rfl
theorem d_133_17 {B : zeB} {im : Nat → Nat → Int32} {lm : Nat → Nat → Int64} (o0 : Option Value) (o1 : Option Value) (o2 : Option Value) (o3 : Option Value)  : zeRun 133 17 [o0, o1, o2, o3] [] (zk B im lm) = some (some (.int 0), (zk B im lm)) := ze_ret (ok := true) rfl 2 rfl rfl
theorem d_133_13 {B : zeB} {im : Nat → Nat → Int32} {lm : Nat → Nat → Int64} (o0 : Option Value) (o1 : Option Value) (o2 : Option Value) (o3 : Option Value)  : zeRun 133 13 [o0, o1, o2, o3] [] (zk B im lm) = some (some (.int 1), (zk B im lm)) := ze_ret (ok := true) rfl 3 rfl rfl
theorem d_133_19 {B : zeB} {im : Nat → Nat → Int32} {lm : Nat → Nat → Int64} (l1 : Int32) (l2 : Int32) (o3 : Option Value)  : zeRun 133 19 [some (.ref 166), some (.int l1), some (.int l2), o3] [] (zk B im lm) = zeBh 133 24 [some (.ref 166), some (.int l1), some (.int l2), o3] [] (zeRun 130 0 [some (.ref 166), some (.int l2)] [] (zk B im lm)) := ze_call (ok := true) rfl 3 rfl rfl rfl
theorem d_133_24 {B : zeB} {im : Nat → Nat → Int32} {lm : Nat → Nat → Int64} (l1 : Int32) (l2 : Int32) (o3 : Option Value) (s0 : Int32)  : zeRun 133 24 [some (.ref 166), some (.int l1), some (.int l2), o3] [.int s0] (zk B im lm) = if s0 < 48 then zeRun 133 45 [some (.ref 166), some (.int l1), some (.int l2), some (.int s0)] [] (zk B im lm) else zeRun 133 31 [some (.ref 166), some (.int l1), some (.int l2), some (.int s0)] [] (zk B im lm) := ze_if (ok := true) rfl 4 rfl rfl
theorem d_133_45 {B : zeB} {im : Nat → Nat → Int32} {lm : Nat → Nat → Int64} (o0 : Option Value) (o1 : Option Value) (o2 : Option Value) (o3 : Option Value)  : zeRun 133 45 [o0, o1, o2, o3] [] (zk B im lm) = some (some (.int 0), (zk B im lm)) := ze_ret (ok := true) rfl 2 rfl rfl
theorem d_133_31 {B : zeB} {im : Nat → Nat → Int32} {lm : Nat → Nat → Int64} (l1 : Int32) (l2 : Int32) (l3 : Int32)  : zeRun 133 31 [some (.ref 166), some (.int l1), some (.int l2), some (.int l3)] [] (zk B im lm) = zeBh 133 38 [some (.ref 166), some (.int l1), some (.int l2), some (.int l3)] [.int l3] (zeRun 132 0 [some (.ref 166), some (.int l1), some (.int l2), none] [] (zk B im lm)) := ze_call (ok := true) rfl 5 rfl rfl rfl
theorem d_133_38 {B : zeB} {im : Nat → Nat → Int32} {lm : Nat → Nat → Int64} (o0 : Option Value) (o1 : Option Value) (o2 : Option Value) (o3 : Option Value) (s0 : Int32) (s1 : Int32)  : zeRun 133 38 [o0, o1, o2, o3] [.int s1, .int s0] (zk B im lm) = if s1 < s0 then zeRun 133 45 [o0, o1, o2, o3] [] (zk B im lm) else zeRun 133 41 [o0, o1, o2, o3] [] (zk B im lm) := ze_if (ok := true) rfl 1 rfl rfl
theorem d_133_41 {B : zeB} {im : Nat → Nat → Int32} {lm : Nat → Nat → Int64} (o0 : Option Value) (o1 : Option Value) (o2 : Option Value) (o3 : Option Value)  : zeRun 133 41 [o0, o1, o2, o3] [] (zk B im lm) = some (some (.int 1), (zk B im lm)) := ze_ret (ok := true) rfl 3 rfl rfl
def m_133 (l1 : Int32) (l2 : Int32) (im : zI) (lm : zJ) : zR :=
    if l2 = l1 then
      zBd (m_131 l1 im lm) fun v1 im1 lm1 =>
      some (if v1 ≤ 0 then 0 else 1, im1, lm1)
    else
      zBd (m_130 l2 im lm) fun v2 im2 lm2 =>
      if v2 < 48 then
        some (0, im2, lm2)
      else
        zBd (m_132 l1 l2 im2 lm2) fun v3 im3 lm3 =>
        some (if v3 < v2 then 0 else 1, im3, lm3)
theorem m_133_ok {B : zeB} (l1 : Int32) (l2 : Int32) (im : zI) (lm : zJ) : zL B 1 (m_133 l1 l2 im lm) (zeRun 133 0 [some (.ref 166), some (.int l1), some (.int l2), none] [] (zk B im lm)) := by
  unfold m_133
  refine zL_if (d_133_0 _ _ _) (fun h => ?_) (fun h => ?_)
  · skip
    refine zL_bd (d_133_5 _ _ _) (m_131_ok _ _ _) fun v1 im1 lm1 => ?_
    refine zL_ifm (d_133_10 _ _ _ _ _) (fun h => ?_) (fun h => ?_)
    · repeat rw [if_pos h]
      exact zL_ret (d_133_17 _ _ _ _)
    · repeat rw [if_neg h]
      exact zL_ret (d_133_13 _ _ _ _)
  · skip
    refine zL_bd (d_133_19 _ _ _) (m_130_ok _ _ _) fun v2 im2 lm2 => ?_
    refine zL_if (d_133_24 _ _ _ _) (fun h => ?_) (fun h => ?_)
    · skip
      exact zL_ret (d_133_45 _ _ _ _)
    · skip
      refine zL_bd (d_133_31 _ _ _) (m_132_ok _ _ _ _) fun v3 im3 lm3 => ?_
      refine zL_ifm (d_133_38 _ _ _ _ _ _) (fun h => ?_) (fun h => ?_)
      · repeat rw [if_pos h]
        exact zL_ret (d_133_45 _ _ _ _)
      · repeat rw [if_neg h]
        exact zL_ret (d_133_41 _ _ _ _)
/-! X5_fault -/
theorem d_134_0 {B : zeB} {im : Nat → Nat → Int32} {lm : Nat → Nat → Int64} (o1 : Option Value) (o2 : Option Value)  : zeRun 134 0 [some (.ref 166), o1, o2] [] (zk B im lm) = zeRun 134 4 [some (.ref 166), some (.int 0), some (.int 0)] [] (zk B im lm) := ze_go (ok := true) rfl 4 rfl rfl
theorem d_134_4 {B : zeB} {im : Nat → Nat → Int32} {lm : Nat → Nat → Int64} (l1 : Int32) (l2 : Int32)  : zeRun 134 4 [some (.ref 166), some (.int l1), some (.int l2)] [] (zk B im lm) = if (im 166 0) ≤ l2 then zeRun 134 46 [some (.ref 166), some (.int l1), some (.int l2)] [] (zk B im lm) else zeRun 134 12 [some (.ref 166), some (.int l1), some (.int l2)] [] (zk B im lm) := ze_if (ok := true) rfl 4 rfl rfl
theorem d_134_46 {B : zeB} {im : Nat → Nat → Int32} {lm : Nat → Nat → Int64} (l1 : Int32) (o2 : Option Value)  : zeRun 134 46 [some (.ref 166), some (.int l1), o2] [] (zk B im lm) = if (im 166 0) ≤ 0 then zeRun 134 65 [some (.ref 166), some (.int l1), o2] [] (zk B im lm) else zeRun 134 53 [some (.ref 166), some (.int l1), o2] [] (zk B im lm) := ze_if (ok := true) rfl 3 rfl rfl
theorem d_134_65 {B : zeB} {im : Nat → Nat → Int32} {lm : Nat → Nat → Int64} (o1 : Option Value) (o2 : Option Value)  : zeRun 134 65 [some (.ref 166), o1, o2] [] (zk B im lm) = some (some (.int (im 166 0)), (zk B im lm)) := ze_ret (ok := true) rfl 3 rfl rfl
theorem d_134_53 {B : zeB} {im : Nat → Nat → Int32} {lm : Nat → Nat → Int64} (l1 : Int32) (o2 : Option Value)  : zeRun 134 53 [some (.ref 166), some (.int l1), o2] [] (zk B im lm) = if l1 = (im 166 0) then zeRun 134 61 [some (.ref 166), some (.int l1), o2] [] (zk B im lm) else zeRun 134 65 [some (.ref 166), some (.int l1), o2] [] (zk B im lm) := ze_if (ok := true) rfl 4 rfl rfl
theorem d_134_61 {B : zeB} {im : Nat → Nat → Int32} {lm : Nat → Nat → Int64} (o0 : Option Value) (o1 : Option Value) (o2 : Option Value)  : zeRun 134 61 [o0, o1, o2] [] (zk B im lm) = some (some (.int (-1)), (zk B im lm)) := ze_ret (ok := true) rfl 3 rfl rfl
theorem d_134_12 {B : zeB} {im : Nat → Nat → Int32} {lm : Nat → Nat → Int64} (l1 : Int32) (l2 : Int32)  : zeRun 134 12 [some (.ref 166), some (.int l1), some (.int l2)] [] (zk B im lm) = zeBh 134 18 [some (.ref 166), some (.int l1), some (.int l2)] [] (zeRun 133 0 [some (.ref 166), some (.int l1), some (.int l2), none] [] (zk B im lm)) := ze_call (ok := true) rfl 4 rfl rfl rfl
theorem d_134_18 {B : zeB} {im : Nat → Nat → Int32} {lm : Nat → Nat → Int64} (l1 : Int32) (l2 : Int32) (s0 : Int32)  : zeRun 134 18 [some (.ref 166), some (.int l1), some (.int l2)] [.int s0] (zk B im lm) = if s0 = 0 then zeRun 134 21 [some (.ref 166), some (.int l1), some (.int l2)] [] (zk B im lm) else zeRun 134 23 [some (.ref 166), some (.int l1), some (.int l2)] [] (zk B im lm) := ze_if (ok := true) rfl 1 rfl rfl
theorem d_134_21 {B : zeB} {im : Nat → Nat → Int32} {lm : Nat → Nat → Int64} (o0 : Option Value) (o1 : Option Value) (l2 : Int32)  : zeRun 134 21 [o0, o1, some (.int l2)] [] (zk B im lm) = some (some (.int l2), (zk B im lm)) := ze_ret (ok := true) rfl 2 rfl rfl
theorem d_134_23 {B : zeB} {im : Nat → Nat → Int32} {lm : Nat → Nat → Int64} (l1 : Int32) (l2 : Int32)  : zeRun 134 23 [some (.ref 166), some (.int l1), some (.int l2)] [] (zk B im lm) = zeBh 134 33 [some (.ref 166), some (.int l1), some (.int l2)] [.int ((l2 + 1) - l1)] (zeRun 131 0 [some (.ref 166), some (.int l1)] [] (zk B im lm)) := ze_call (ok := true) rfl 8 rfl rfl rfl
theorem d_134_33 {B : zeB} {im : Nat → Nat → Int32} {lm : Nat → Nat → Int64} (l1 : Int32) (l2 : Int32) (s0 : Int32) (s1 : Int32)  : zeRun 134 33 [some (.ref 166), some (.int l1), some (.int l2)] [.int s1, .int s0] (zk B im lm) = if s0 = s1 then zeRun 134 36 [some (.ref 166), some (.int l1), some (.int l2)] [] (zk B im lm) else zeRun 134 40 [some (.ref 166), some (.int l1), some (.int l2)] [] (zk B im lm) := ze_if (ok := true) rfl 1 rfl rfl
theorem d_134_36 {B : zeB} {im : Nat → Nat → Int32} {lm : Nat → Nat → Int64} (o1 : Option Value) (l2 : Int32)  : zeRun 134 36 [some (.ref 166), o1, some (.int l2)] [] (zk B im lm) = zeRun 134 4 [some (.ref 166), some (.int (l2 + 1)), some (.int (l2 + 1))] [] (zk B im lm) := ze_go (ok := true) rfl 6 rfl rfl
theorem d_134_40 {B : zeB} {im : Nat → Nat → Int32} {lm : Nat → Nat → Int64} (l1 : Int32) (l2 : Int32)  : zeRun 134 40 [some (.ref 166), some (.int l1), some (.int l2)] [] (zk B im lm) = zeRun 134 4 [some (.ref 166), some (.int l1), some (.int (l2 + 1))] [] (zk B im lm) := ze_go (ok := true) rfl 2 rfl rfl
def F_134_4  : Nat → Int32 → Int32 → zI → zJ → zR
  | 0, _, _, _, _ => none
  | n + 1, l1, l2, im, lm =>
    if (im 166 0) ≤ l2 then
      some (if (im 166 0) ≤ 0 then (im 166 0) else if l1 = (im 166 0) then (-1) else (im 166 0), im, lm)
    else
      zBd (m_133 l1 l2 im lm) fun v1 im1 lm1 =>
      if v1 = 0 then
        some (l2, im1, lm1)
      else
        zBd (m_131 l1 im1 lm1) fun v2 im2 lm2 =>
        F_134_4  n (if ((l2 + 1) - l1) = v2 then (l2 + 1) else l1) (l2 + 1) im2 lm2
theorem F_134_4_ok {B : zeB} : ∀ (n : Nat) (l1 : Int32) (l2 : Int32)  (im : zI) (lm : zJ), zL B 1 (F_134_4  n l1 l2 im lm) (zeRun 134 4 [some (.ref 166), some (.int l1), some (.int l2)] [] (zk B im lm)) := by
  intro n
  induction n with
  | zero => intros; exact zL_none
  | succ n ih =>
    intro l1 l2 im lm
    unfold F_134_4
    refine zL_if (d_134_4 _ _) (fun h => ?_) (fun h => ?_)
    · skip
      refine zL_ifm (d_134_46 _ _) (fun h => ?_) (fun h => ?_)
      · repeat rw [if_pos h]
        exact zL_ret (d_134_65 _ _)
      · repeat rw [if_neg h]
        refine zL_ifm (d_134_53 _ _) (fun h => ?_) (fun h => ?_)
        · repeat rw [if_pos h]
          exact zL_ret (d_134_61 _ _ _)
        · repeat rw [if_neg h]
          exact zL_ret (d_134_65 _ _)
    · skip
      refine zL_bd (d_134_12 _ _) (m_133_ok _ _ _ _) fun v1 im1 lm1 => ?_
      refine zL_if (d_134_18 _ _ _) (fun h => ?_) (fun h => ?_)
      · skip
        exact zL_ret (d_134_21 _ _ _)
      · skip
        refine zL_bd (d_134_23 _ _) (m_131_ok _ _ _) fun v2 im2 lm2 => ?_
        refine zL_ifm (d_134_33 _ _ _ _) (fun h => ?_) (fun h => ?_)
        · repeat rw [if_pos h]
          refine zL_eq (d_134_36 _ _) ?_
          exact ih _ _ _ _
        · repeat rw [if_neg h]
          refine zL_eq (d_134_40 _ _) ?_
          exact ih _ _ _ _
def m_134  (im : zI) (lm : zJ) : zR :=
    F_134_4  2000 0 0 im lm
theorem m_134_ok {B : zeB}  (im : zI) (lm : zJ) : zL B 1 (m_134  im lm) (zeRun 134 0 [some (.ref 166), none, none] [] (zk B im lm)) := by
  unfold m_134
  refine zL_eq (d_134_0 _ _) ?_
  exact F_134_4_ok  _ _ _ _ _
/-! X5_number -/
theorem d_135_0 {B : zeB} {im : Nat → Nat → Int32} {lm : Nat → Nat → Int64} (l1 : Int32) (l2 : Int32) (o3 : Option Value) (o4 : Option Value)  : zeRun 135 0 [some (.ref 166), some (.int l1), some (.int l2), o3, o4] [] (zk B im lm) = zeRun 135 5 [some (.ref 166), some (.int l1), some (.int l2), some (.int 0), some (.int l1)] [] (zk B im lm) := ze_go (ok := true) rfl 4 rfl rfl
theorem d_135_5 {B : zeB} {im : Nat → Nat → Int32} {lm : Nat → Nat → Int64} (l1 : Int32) (l2 : Int32) (l3 : Int32) (l4 : Int32)  : zeRun 135 5 [some (.ref 166), some (.int l1), some (.int l2), some (.int l3), some (.int l4)] [] (zk B im lm) = if (l1 + l2) ≤ l4 then zeRun 135 34 [some (.ref 166), some (.int l1), some (.int l2), some (.int l3), some (.int l4)] [] (zk B im lm) else zeRun 135 13 [some (.ref 166), some (.int l1), some (.int l2), some (.int l3), some (.int l4)] [] (zk B im lm) := ze_if (ok := true) rfl 5 rfl rfl
theorem d_135_34 {B : zeB} {im : Nat → Nat → Int32} {lm : Nat → Nat → Int64} (o0 : Option Value) (o1 : Option Value) (o2 : Option Value) (l3 : Int32) (o4 : Option Value)  : zeRun 135 34 [o0, o1, o2, some (.int l3), o4] [] (zk B im lm) = some (some (.int l3), (zk B im lm)) := ze_ret (ok := true) rfl 2 rfl rfl
theorem d_135_13 {B : zeB} {im : Nat → Nat → Int32} {lm : Nat → Nat → Int64} (l1 : Int32) (l2 : Int32) (l3 : Int32) (l4 : Int32)  : zeRun 135 13 [some (.ref 166), some (.int l1), some (.int l2), some (.int l3), some (.int l4)] [] (zk B im lm) = zeBh 135 23 [some (.ref 166), some (.int l1), some (.int l2), some (.int l3), some (.int l4)] [.int (10 * l3)] (zeRun 130 0 [some (.ref 166), some (.int l4)] [] (zk B im lm)) := ze_call (ok := true) rfl 6 rfl rfl rfl
theorem d_135_23 {B : zeB} {im : Nat → Nat → Int32} {lm : Nat → Nat → Int64} (l1 : Int32) (l2 : Int32) (o3 : Option Value) (l4 : Int32) (s0 : Int32) (s1 : Int32)  : zeRun 135 23 [some (.ref 166), some (.int l1), some (.int l2), o3, some (.int l4)] [.int s1, .int s0] (zk B im lm) = zeRun 135 5 [some (.ref 166), some (.int l1), some (.int l2), some (.int ((s0 + s1) - 48)), some (.int (l4 + 1))] [] (zk B im lm) := ze_go (ok := true) rfl 6 rfl rfl
def F_135_5  : Nat → Int32 → Int32 → Int32 → Int32 → zI → zJ → zR
  | 0, _, _, _, _, _, _ => none
  | n + 1, l1, l2, l3, l4, im, lm =>
    if (l1 + l2) ≤ l4 then
      some (l3, im, lm)
    else
      zBd (m_130 l4 im lm) fun v1 im1 lm1 =>
      F_135_5  n l1 l2 (((10 * l3) + v1) - 48) (l4 + 1) im1 lm1
theorem F_135_5_ok {B : zeB} : ∀ (n : Nat) (l1 : Int32) (l2 : Int32) (l3 : Int32) (l4 : Int32)  (im : zI) (lm : zJ), zL B 1 (F_135_5  n l1 l2 l3 l4 im lm) (zeRun 135 5 [some (.ref 166), some (.int l1), some (.int l2), some (.int l3), some (.int l4)] [] (zk B im lm)) := by
  intro n
  induction n with
  | zero => intros; exact zL_none
  | succ n ih =>
    intro l1 l2 l3 l4 im lm
    unfold F_135_5
    refine zL_if (d_135_5 _ _ _ _) (fun h => ?_) (fun h => ?_)
    · skip
      exact zL_ret (d_135_34 _ _ _ _ _)
    · skip
      refine zL_bd (d_135_13 _ _ _ _) (m_130_ok _ _ _) fun v1 im1 lm1 => ?_
      refine zL_eq (d_135_23 _ _ _ _ _ _) ?_
      exact ih _ _ _ _ _ _
def m_135 (l1 : Int32) (l2 : Int32) (im : zI) (lm : zJ) : zR :=
    F_135_5  2000 l1 l2 0 l1 im lm
theorem m_135_ok {B : zeB} (l1 : Int32) (l2 : Int32) (im : zI) (lm : zJ) : zL B 1 (m_135 l1 l2 im lm) (zeRun 135 0 [some (.ref 166), some (.int l1), some (.int l2), none, none] [] (zk B im lm)) := by
  unfold m_135
  refine zL_eq (d_135_0 _ _ _ _) ?_
  exact F_135_5_ok  _ _ _ _ _ _ _
/-! X7_doMove -/
theorem d_136_0 {B : zeB} {im : Nat → Nat → Int32} {lm : Nat → Nat → Int64} (l1 : Int32)  : zeRun 136 0 [some (.ref 16), some (.int l1)] [] (zk B im lm) = zeBh 136 8 [some (.ref 16), some (.int l1)] [] (zeRun 130 0 [some (.ref 166), some (.int l1)] [] (zk B im lm)) := ze_call (ok := true) rfl 4 rfl rfl rfl
theorem d_136_8 {B : zeB} {im : Nat → Nat → Int32} {lm : Nat → Nat → Int64} (l1 : Int32) (s0 : Int32)  : zeRun 136 8 [some (.ref 16), some (.int l1)] [.int s0] (zk B im lm) = zeRun 136 (zeSw s0 135 [(43, 123), (45, 129), (98, 80), (112, 60), (119, 107)]) [some (.ref 16), some (.int l1)] [] (zk B im lm) := ze_go (ok := true) rfl 1 rfl rfl
theorem d_136_123 {B : zeB} {im : Nat → Nat → Int32} {lm : Nat → Nat → Int64} (o1 : Option Value)  : zeRun 136 123 [some (.ref 16), o1] [] (zk B im lm) = zeBh 136 128 [some (.ref 16), o1] [] (zeRun 85 0 [some (.ref 16), some (.int 1), none] [] (zk B im lm)) := ze_call (ok := true) rfl 3 rfl rfl rfl
theorem d_136_128 {B : zeB} {im : Nat → Nat → Int32} {lm : Nat → Nat → Int64} (o0 : Option Value) (o1 : Option Value) (s0 : Int32)  : zeRun 136 128 [o0, o1] [.int s0] (zk B im lm) = some (some (.int s0), (zk B im lm)) := ze_ret (ok := true) rfl 1 rfl rfl
theorem d_136_129 {B : zeB} {im : Nat → Nat → Int32} {lm : Nat → Nat → Int64} (o1 : Option Value)  : zeRun 136 129 [some (.ref 16), o1] [] (zk B im lm) = zeBh 136 134 [some (.ref 16), o1] [] (zeRun 85 0 [some (.ref 16), some (.int 0), none] [] (zk B im lm)) := ze_call (ok := true) rfl 3 rfl rfl rfl
theorem d_136_134 {B : zeB} {im : Nat → Nat → Int32} {lm : Nat → Nat → Int64} (o0 : Option Value) (o1 : Option Value) (s0 : Int32)  : zeRun 136 134 [o0, o1] [.int s0] (zk B im lm) = some (some (.int s0), (zk B im lm)) := ze_ret (ok := true) rfl 1 rfl rfl
theorem d_136_80 {B : zeB} {im : Nat → Nat → Int32} {lm : Nat → Nat → Int64} (l1 : Int32)  : zeRun 136 80 [some (.ref 16), some (.int l1)] [] (zk B im lm) = zeBh 136 92 [some (.ref 16), some (.int l1)] [.ref 16] (zeRun 135 0 [some (.ref 166), some (.int (l1 + 1)), some (.int 1), none, none] [] (zk B im lm)) := ze_call (ok := true) rfl 8 rfl rfl rfl
theorem d_136_92 {B : zeB} {im : Nat → Nat → Int32} {lm : Nat → Nat → Int64} (l1 : Int32) (s1 : Int32)  : zeRun 136 92 [some (.ref 16), some (.int l1)] [.int s1, .ref 16] (zk B im lm) = zeBh 136 103 [some (.ref 16), some (.int l1)] [.int s1, .ref 16] (zeRun 135 0 [some (.ref 166), some (.int (l1 + 2)), some (.int 2), none, none] [] (zk B im lm)) := ze_call (ok := true) rfl 7 rfl rfl rfl
theorem d_136_103 {B : zeB} {im : Nat → Nat → Int32} {lm : Nat → Nat → Int64} (o0 : Option Value) (o1 : Option Value) (s1 : Int32) (s2 : Int32)  : zeRun 136 103 [o0, o1] [.int s2, .int s1, .ref 16] (zk B im lm) = zeBh 136 106 [o0, o1] [] (zeRun 58 0 [some (.ref 16), some (.int s1), some (.int s2)] [] (zk B im lm)) := ze_call (ok := true) rfl 1 rfl rfl rfl
theorem d_136_106 {B : zeB} {im : Nat → Nat → Int32} {lm : Nat → Nat → Int64} (o0 : Option Value) (o1 : Option Value) (s0 : Int32)  : zeRun 136 106 [o0, o1] [.int s0] (zk B im lm) = some (some (.int s0), (zk B im lm)) := ze_ret (ok := true) rfl 1 rfl rfl
theorem d_136_60 {B : zeB} {im : Nat → Nat → Int32} {lm : Nat → Nat → Int64} (l1 : Int32)  : zeRun 136 60 [some (.ref 16), some (.int l1)] [] (zk B im lm) = zeBh 136 65 [some (.ref 16), some (.int l1)] [.ref 16] (zeRun 39 0 [some (.ref 16)] [] (zk B im lm)) := ze_call (ok := true) rfl 3 rfl rfl rfl
theorem d_136_65 {B : zeB} {im : Nat → Nat → Int32} {lm : Nat → Nat → Int64} (l1 : Int32) (s1 : Int32)  : zeRun 136 65 [some (.ref 16), some (.int l1)] [.int s1, .ref 16] (zk B im lm) = zeBh 136 76 [some (.ref 16), some (.int l1)] [.int s1, .ref 16] (zeRun 135 0 [some (.ref 166), some (.int (l1 + 1)), some (.int 2), none, none] [] (zk B im lm)) := ze_call (ok := true) rfl 7 rfl rfl rfl
theorem d_136_76 {B : zeB} {im : Nat → Nat → Int32} {lm : Nat → Nat → Int64} (o0 : Option Value) (o1 : Option Value) (s1 : Int32) (s2 : Int32)  : zeRun 136 76 [o0, o1] [.int s2, .int s1, .ref 16] (zk B im lm) = zeBh 136 79 [o0, o1] [] (zeRun 42 0 [some (.ref 16), some (.int s1), some (.int s2)] [] (zk B im lm)) := ze_call (ok := true) rfl 1 rfl rfl rfl
theorem d_136_79 {B : zeB} {im : Nat → Nat → Int32} {lm : Nat → Nat → Int64} (o0 : Option Value) (o1 : Option Value) (s0 : Int32)  : zeRun 136 79 [o0, o1] [.int s0] (zk B im lm) = some (some (.int s0), (zk B im lm)) := ze_ret (ok := true) rfl 1 rfl rfl
theorem d_136_107 {B : zeB} {im : Nat → Nat → Int32} {lm : Nat → Nat → Int64} (l1 : Int32)  : zeRun 136 107 [some (.ref 16), some (.int l1)] [] (zk B im lm) = zeBh 136 119 [some (.ref 16), some (.int l1)] [.ref 16] (zeRun 135 0 [some (.ref 166), some (.int (l1 + 1)), some (.int 4), none, none] [] (zk B im lm)) := ze_call (ok := true) rfl 8 rfl rfl rfl
theorem d_136_119 {B : zeB} {im : Nat → Nat → Int32} {lm : Nat → Nat → Int64} (o0 : Option Value) (o1 : Option Value) (s1 : Int32)  : zeRun 136 119 [o0, o1] [.int s1, .ref 16] (zk B im lm) = zeBh 136 122 [o0, o1] [] (zeRun 97 0 [some (.ref 16), some (.int s1), none] [] (zk B im lm)) := ze_call (ok := true) rfl 1 rfl rfl rfl
theorem d_136_122 {B : zeB} {im : Nat → Nat → Int32} {lm : Nat → Nat → Int64} (o0 : Option Value) (o1 : Option Value) (s0 : Int32)  : zeRun 136 122 [o0, o1] [.int s0] (zk B im lm) = some (some (.int s0), (zk B im lm)) := ze_ret (ok := true) rfl 1 rfl rfl
theorem d_136_135 {B : zeB} {im : Nat → Nat → Int32} {lm : Nat → Nat → Int64} (o1 : Option Value)  : zeRun 136 135 [some (.ref 16), o1] [] (zk B im lm) = zeBh 136 139 [some (.ref 16), o1] [] (zeRun 92 0 [some (.ref 16)] [] (zk B im lm)) := ze_call (ok := true) rfl 2 rfl rfl rfl
theorem d_136_139 {B : zeB} {im : Nat → Nat → Int32} {lm : Nat → Nat → Int64} (o0 : Option Value) (o1 : Option Value) (s0 : Int32)  : zeRun 136 139 [o0, o1] [.int s0] (zk B im lm) = some (some (.int s0), (zk B im lm)) := ze_ret (ok := true) rfl 1 rfl rfl
def m_136 (l1 : Int32) (im : zI) (lm : zJ) : zR :=
    zBd (m_130 l1 im lm) fun v1 im1 lm1 =>
    if v1 = 43 then
      zBd (m_85 1 im1 lm1) fun v2 im2 lm2 =>
      some (v2, im2, lm2)
    else
      if v1 = 45 then
        zBd (m_85 0 im1 lm1) fun v3 im3 lm3 =>
        some (v3, im3, lm3)
      else
        if v1 = 98 then
          zBd (m_135 (l1 + 1) 1 im1 lm1) fun v4 im4 lm4 =>
          zBd (m_135 (l1 + 2) 2 im4 lm4) fun v5 im5 lm5 =>
          zBd (m_58 v4 v5 im5 lm5) fun v6 im6 lm6 =>
          some (v6, im6, lm6)
        else
          if v1 = 112 then
            zBd (m_135 (l1 + 1) 2 im1 lm1) fun v8 im8 lm8 =>
            zBd (m_42 (if (im1 17 1) = 0 then (-10000005) else (im1 32 0) : Int32) v8 im8 lm8) fun v9 im9 lm9 =>
            some (v9, im9, lm9)
          else
            if v1 = 119 then
              zBd (m_135 (l1 + 1) 4 im1 lm1) fun v10 im10 lm10 =>
              zBd (m_97 v10 im10 lm10) fun v11 im11 lm11 =>
              some (v11, im11, lm11)
            else
              zBd (m_92  im1 lm1) fun v12 im12 lm12 =>
              some (v12, im12, lm12)
theorem m_136_ok {B : zeB} (l1 : Int32) (im : zI) (lm : zJ) : zL B 1 (m_136 l1 im lm) (zeRun 136 0 [some (.ref 16), some (.int l1)] [] (zk B im lm)) := by
  unfold m_136
  refine zL_bd (d_136_0 _) (m_130_ok _ _ _) fun v1 im1 lm1 => ?_
  refine zL_eq (d_136_8 _ _) ?_
  refine zL_sw (fun h => ?_) (fun h => ?_)
  · skip
    refine zL_bd (d_136_123 _) (m_85_ok _ _ _) fun v2 im2 lm2 => ?_
    exact zL_ret (d_136_128 _ _ _)
  refine zL_sw (fun h => ?_) (fun h => ?_)
  · skip
    refine zL_bd (d_136_129 _) (m_85_ok _ _ _) fun v3 im3 lm3 => ?_
    exact zL_ret (d_136_134 _ _ _)
  refine zL_sw (fun h => ?_) (fun h => ?_)
  · skip
    refine zL_bd (d_136_80 _) (m_135_ok _ _ _ _) fun v4 im4 lm4 => ?_
    refine zL_bd (d_136_92 _ _) (m_135_ok _ _ _ _) fun v5 im5 lm5 => ?_
    refine zL_bd (d_136_103 _ _ _ _) (m_58_ok _ _ _ _) fun v6 im6 lm6 => ?_
    exact zL_ret (d_136_106 _ _ _)
  refine zL_sw (fun h => ?_) (fun h => ?_)
  · skip
    refine zL_bdp (e := (if (im1 17 1) = 0 then (-10000005) else (im1 32 0) : Int32)) (d_136_60 _) (m_39_ok _ _) ?_
    refine zL_bd (d_136_65 _ _) (m_135_ok _ _ _ _) fun v8 im8 lm8 => ?_
    refine zL_bd (d_136_76 _ _ _ _) (m_42_ok _ _ _ _) fun v9 im9 lm9 => ?_
    exact zL_ret (d_136_79 _ _ _)
  refine zL_sw (fun h => ?_) (fun h => ?_)
  · skip
    refine zL_bd (d_136_107 _) (m_135_ok _ _ _ _) fun v10 im10 lm10 => ?_
    refine zL_bd (d_136_119 _ _ _) (m_97_ok _ _ _) fun v11 im11 lm11 => ?_
    exact zL_ret (d_136_122 _ _ _)
  refine zL_swd ?_
  refine zL_bd (d_136_135 _) (m_92_ok _ _) fun v12 im12 lm12 => ?_
  exact zL_ret (d_136_139 _ _ _)
/-! X7_runScript -/
theorem d_138_0 {B : zeB} {im : Nat → Nat → Int32} {lm : Nat → Nat → Int64} (o1 : Option Value) (o2 : Option Value) (o3 : Option Value)  : zeRun 138 0 [some (.ref 16), o1, o2, o3] [] (zk B im lm) = zeBh 138 7 [some (.ref 16), o1, o2, o3] [] (zeRun 134 0 [some (.ref 166), none, none] [] (zk B im lm)) := ze_call (ok := true) rfl 3 rfl rfl rfl
theorem d_138_7 {B : zeB} {im : Nat → Nat → Int32} {lm : Nat → Nat → Int64} (o1 : Option Value) (o2 : Option Value) (o3 : Option Value) (s0 : Int32)  : zeRun 138 7 [some (.ref 16), o1, o2, o3] [.int s0] (zk B im lm) = if s0 = (-1) then zeRun 138 18 [some (.ref 16), some (.int s0), o2, o3] [] (zk B im lm) else zeRun 138 13 [some (.ref 16), some (.int s0), o2, o3] [] (zk B im lm) := ze_if (ok := true) rfl 4 rfl rfl
theorem d_138_18 {B : zeB} {im : Nat → Nat → Int32} {lm : Nat → Nat → Int64} (o1 : Option Value) (o2 : Option Value) (o3 : Option Value)  : zeRun 138 18 [some (.ref 16), o1, o2, o3] [] (zk B im lm) = zeBh 138 29 [some (.ref 16), o1, o2, o3] [] (zeRun 15 0 [some (.ref 42), some (.ref 17)] [] (zk B im lm)) := ze_call (ok := true) rfl 5 rfl rfl rfl
theorem d_138_29 {B : zeB} {im : Nat → Nat → Int32} {lm : Nat → Nat → Int64} (o1 : Option Value) (o2 : Option Value) (o3 : Option Value)  : zeRun 138 29 [some (.ref 16), o1, o2, o3] [] (zk B im lm) = zeRun 138 33 [some (.ref 16), o1, some (.int 0), some (.int 0)] [] (zk B im lm) := ze_go (ok := true) rfl 4 rfl rfl
theorem d_138_13 {B : zeB} {im : Nat → Nat → Int32} {lm : Nat → Nat → Int64} (o0 : Option Value) (l1 : Int32) (o2 : Option Value) (o3 : Option Value)  : zeRun 138 13 [o0, some (.int l1), o2, o3] [] (zk B im lm) = some (some (.int ((-100) - l1)), (zk B im lm)) := ze_ret (ok := true) rfl 4 rfl rfl
theorem d_138_33 {B : zeB} {im : Nat → Nat → Int32} {lm : Nat → Nat → Int64} (o1 : Option Value) (l2 : Int32) (l3 : Int32)  : zeRun 138 33 [some (.ref 16), o1, some (.int l2), some (.int l3)] [] (zk B im lm) = if 70 ≤ l2 then zeRun 138 78 [some (.ref 16), o1, some (.int l2), some (.int l3)] [] (zk B im lm) else zeRun 138 39 [some (.ref 16), o1, some (.int l2), some (.int l3)] [] (zk B im lm) := ze_if (ok := true) rfl 3 rfl rfl
theorem d_138_39 {B : zeB} {im : Nat → Nat → Int32} {lm : Nat → Nat → Int64} (o1 : Option Value) (l2 : Int32) (l3 : Int32)  : zeRun 138 39 [some (.ref 16), o1, some (.int l2), some (.int l3)] [] (zk B im lm) = if (im 166 0) ≤ l3 then zeRun 138 78 [some (.ref 16), o1, some (.int l2), some (.int l3)] [] (zk B im lm) else zeRun 138 50 [some (.ref 16), o1, some (.int l2), some (.int l3)] [] (zk B im lm) := ze_if (ok := true) rfl 5 rfl rfl
theorem d_138_50 {B : zeB} {im : Nat → Nat → Int32} {lm : Nat → Nat → Int64} (o1 : Option Value) (l2 : Int32) (l3 : Int32)  : zeRun 138 50 [some (.ref 16), o1, some (.int l2), some (.int l3)] [] (zk B im lm) = zeBh 138 55 [some (.ref 16), o1, some (.int l2), some (.int l3)] [] (zeRun 136 0 [some (.ref 16), some (.int l3)] [] (zk B im lm)) := ze_call (ok := true) rfl 3 rfl rfl rfl
theorem d_138_55 {B : zeB} {im : Nat → Nat → Int32} {lm : Nat → Nat → Int64} (o1 : Option Value) (l2 : Int32) (l3 : Int32) (s0 : Int32)  : zeRun 138 55 [some (.ref 16), o1, some (.int l2), some (.int l3)] [.int s0] (zk B im lm) = zeBh 138 58 [some (.ref 16), o1, some (.int l2), some (.int l3)] [] (zeRun 19 0 [some (.int s0)] [] (zk B im lm)) := ze_call (ok := true) rfl 1 rfl rfl rfl
theorem d_138_58 {B : zeB} {im : Nat → Nat → Int32} {lm : Nat → Nat → Int64} (o1 : Option Value) (l2 : Int32) (l3 : Int32) (s0 : Int32)  : zeRun 138 58 [some (.ref 16), o1, some (.int l2), some (.int l3)] [.int s0] (zk B im lm) = if s0 = 0 then zeRun 138 61 [some (.ref 16), o1, some (.int l2), some (.int l3)] [] (zk B im lm) else zeRun 138 78 [some (.ref 16), o1, some (.int l2), some (.int l3)] [] (zk B im lm) := ze_if (ok := true) rfl 1 rfl rfl
theorem d_138_61 {B : zeB} {im : Nat → Nat → Int32} {lm : Nat → Nat → Int64} (o1 : Option Value) (l2 : Int32) (l3 : Int32)  : zeRun 138 61 [some (.ref 16), o1, some (.int l2), some (.int l3)] [] (zk B im lm) = zeBh 138 70 [some (.ref 16), o1, some (.int l2), some (.int l3)] [.int l3] (zeRun 131 0 [some (.ref 166), some (.int l3)] [] (zk B im lm)) := ze_call (ok := true) rfl 5 rfl rfl rfl
theorem d_138_70 {B : zeB} {im : Nat → Nat → Int32} {lm : Nat → Nat → Int64} (o1 : Option Value) (l2 : Int32) (o3 : Option Value) (s0 : Int32) (s1 : Int32)  : zeRun 138 70 [some (.ref 16), o1, some (.int l2), o3] [.int s1, .int s0] (zk B im lm) = zeRun 138 33 [some (.ref 16), o1, some (.int (l2 + 1)), some (.int (s0 + s1))] [] (zk B im lm) := ze_go (ok := true) rfl 4 rfl rfl
theorem d_138_78 {B : zeB} {im : Nat → Nat → Int32} {lm : Nat → Nat → Int64} (o1 : Option Value) (l2 : Int32) (o3 : Option Value)  : zeRun 138 78 [some (.ref 16), o1, some (.int l2), o3] [] (zk B im lm) = zeBh 138 85 [some (.ref 16), o1, some (.int l2), o3] [] (zeRun 20 0 [some (.ref 42)] [] (zk B im lm)) := ze_call (ok := true) rfl 3 rfl rfl rfl
theorem d_138_85 {B : zeB} {im : Nat → Nat → Int32} {lm : Nat → Nat → Int64} (o0 : Option Value) (o1 : Option Value) (l2 : Int32) (o3 : Option Value)  : zeRun 138 85 [o0, o1, some (.int l2), o3] [] (zk B im lm) = some (some (.int l2), (zk B im lm)) := ze_ret (ok := true) rfl 2 rfl rfl
def J_138_78  (l2 : Int32) (im : zI) (lm : zJ) : zR :=
    zBd (m_20  im lm) fun _ im1 lm1 =>
    some (l2, im1, lm1)
theorem J_138_78_ok {B : zeB} (l2 : Int32) (o1 : Option Value) (o3 : Option Value) (im : zI) (lm : zJ) : zL B 1 (J_138_78  l2 im lm) (zeRun 138 78 [some (.ref 16), o1, some (.int l2), o3] [] (zk B im lm)) := by
  unfold J_138_78
  refine zL_bdv (d_138_78 _ _ _) (m_20_ok _ _) fun _ im1 lm1 => ?_
  exact zL_ret (d_138_85 _ _ _ _)
def F_138_33  : Nat → Int32 → Int32 → zI → zJ → zR
  | 0, _, _, _, _ => none
  | n + 1, l2, l3, im, lm =>
    if 70 ≤ l2 then
      J_138_78   l2 im lm
    else
      if (im 166 0) ≤ l3 then
        J_138_78   l2 im lm
      else
        zBd (m_136 l3 im lm) fun v1 im1 lm1 =>
        if (if v1 = (-10000001) then 1 else if v1 = (-10000002) then 1 else if v1 = (-10000003) then 1 else if v1 = (-10000004) then 1 else 0 : Int32) = 0 then
          zBd (m_131 l3 im1 lm1) fun v3 im3 lm3 =>
          F_138_33  n (l2 + 1) (l3 + v3) im3 lm3
        else
          J_138_78   l2 im1 lm1
theorem F_138_33_ok {B : zeB} : ∀ (n : Nat) (l2 : Int32) (l3 : Int32) (o1 : Option Value) (im : zI) (lm : zJ), zL B 1 (F_138_33  n l2 l3 im lm) (zeRun 138 33 [some (.ref 16), o1, some (.int l2), some (.int l3)] [] (zk B im lm)) := by
  intro n
  induction n with
  | zero => intros; exact zL_none
  | succ n ih =>
    intro l2 l3 o1 im lm
    unfold F_138_33
    refine zL_if (d_138_33 _ _ _) (fun h => ?_) (fun h => ?_)
    · skip
      exact J_138_78_ok   _ _ _ _ _
    · skip
      refine zL_if (d_138_39 _ _ _) (fun h => ?_) (fun h => ?_)
      · skip
        exact J_138_78_ok   _ _ _ _ _
      · skip
        refine zL_bd (d_138_50 _ _ _) (m_136_ok _ _ _) fun v1 im1 lm1 => ?_
        refine zL_bdp (e := (if v1 = (-10000001) then 1 else if v1 = (-10000002) then 1 else if v1 = (-10000003) then 1 else if v1 = (-10000004) then 1 else 0 : Int32)) (d_138_55 _ _ _ _) (m_19_ok _ _ _) ?_
        refine zL_if (d_138_58 _ _ _ _) (fun h => ?_) (fun h => ?_)
        · skip
          refine zL_bd (d_138_61 _ _ _) (m_131_ok _ _ _) fun v3 im3 lm3 => ?_
          refine zL_eq (d_138_70 _ _ _ _ _) ?_
          exact ih _ _ _ _ _
        · skip
          exact J_138_78_ok   _ _ _ _ _
def m_138  (im : zI) (lm : zJ) : zR :=
    zBd (m_134  im lm) fun v1 im1 lm1 =>
    if v1 = (-1) then
      zBd (m_15  im1 lm1) fun _ im2 lm2 =>
      F_138_33  2000 0 0 im2 lm2
    else
      some (((-100) - v1), im1, lm1)
theorem m_138_ok {B : zeB}  (im : zI) (lm : zJ) : zL B 1 (m_138  im lm) (zeRun 138 0 [some (.ref 16), none, none, none] [] (zk B im lm)) := by
  unfold m_138
  refine zL_bd (d_138_0 _ _ _) (m_134_ok _ _) fun v1 im1 lm1 => ?_
  refine zL_if (d_138_7 _ _ _ _) (fun h => ?_) (fun h => ?_)
  · skip
    refine zL_bdv (d_138_18 _ _ _) (m_15_ok _ _) fun _ im2 lm2 => ?_
    refine zL_eq (d_138_29 _ _ _) ?_
    exact F_138_33_ok  _ _ _ _ _ _
  · skip
    exact zL_ret (d_138_13 _ _ _ _)
/-! X8_digit -/
theorem d_139_0 {B : zeB} {im : Nat → Nat → Int32} {lm : Nat → Nat → Int64} (l1 : Int32)  : zeRun 139 0 [some (.ref 170), some (.int l1)] [] (zk B im lm) = if (im 170 16) ≤ l1 then zeRun 139 36 [some (.ref 170), some (.int l1)] [] (zk B im lm) else zeRun 139 8 [some (.ref 170), some (.int l1)] [] (zk B im lm) := ze_if (ok := true) rfl 4 rfl rfl
theorem d_139_36 {B : zeB} {im : Nat → Nat → Int32} {lm : Nat → Nat → Int64} (o0 : Option Value) (o1 : Option Value)  : zeRun 139 36 [o0, o1] [] (zk B im lm) = some (some (.int (-1)), (zk B im lm)) := ze_ret (ok := true) rfl 2 rfl rfl
theorem d_139_8 {B : zeB} {im : Nat → Nat → Int32} {lm : Nat → Nat → Int64} (l1 : Int32) (c0 : zeInb l1 70 = true) : zeRun 139 8 [some (.ref 170), some (.int l1)] [] (zk B im lm) = zeBh 139 21 [some (.ref 170), some (.int l1)] [] (zeRun 32 0 [some (.int (im 184 (Int32.toNatClampNeg l1))), some (.int 48), some (.int 57)] [] (zk B im lm)) := ze_call (ok := (zeInb l1 70 && true)) rfl 7 rfl rfl (zeA2 c0 rfl)
theorem d_139_21 {B : zeB} {im : Nat → Nat → Int32} {lm : Nat → Nat → Int64} (l1 : Int32) (s0 : Int32)  : zeRun 139 21 [some (.ref 170), some (.int l1)] [.int s0] (zk B im lm) = if s0 = 0 then zeRun 139 36 [some (.ref 170), some (.int l1)] [] (zk B im lm) else zeRun 139 24 [some (.ref 170), some (.int l1)] [] (zk B im lm) := ze_if (ok := true) rfl 1 rfl rfl
theorem d_139_24 {B : zeB} {im : Nat → Nat → Int32} {lm : Nat → Nat → Int64} (l1 : Int32) (c0 : zeInb l1 70 = true) : zeRun 139 24 [some (.ref 170), some (.int l1)] [] (zk B im lm) = some (some (.int ((im 184 (Int32.toNatClampNeg l1)) - 48)), (zk B im lm)) := ze_ret (ok := (zeInb l1 70 && true)) rfl 8 rfl (zeA2 c0 rfl)
def m_139 (l1 : Int32) (im : zI) (lm : zJ) : zR :=
    zCk (if (im 170 16) ≤ l1 then true else zeInb l1 70) <|
    some (if (im 170 16) ≤ l1 then (-1) else if (if (im 184 (Int32.toNatClampNeg l1)) < 48 then 0 else if 57 < (im 184 (Int32.toNatClampNeg l1)) then 0 else 1 : Int32) = 0 then (-1) else ((im 184 (Int32.toNatClampNeg l1)) - 48), im, lm)
theorem m_139_ok {B : zeB} (l1 : Int32) (im : zI) (lm : zJ) : zL B 1 (m_139 l1 im lm) (zeRun 139 0 [some (.ref 170), some (.int l1)] [] (zk B im lm)) := by
  unfold m_139
  refine zL_ifm (d_139_0 _) (fun h => ?_) (fun h => ?_)
  · repeat rw [if_pos h]
    refine zL_ckt ?_
    exact zL_ret (d_139_36 _ _)
  · repeat rw [if_neg h]
    refine zL_ck fun c1 => ?_
    refine zL_bdp (e := (if (im 184 (Int32.toNatClampNeg l1)) < 48 then 0 else if 57 < (im 184 (Int32.toNatClampNeg l1)) then 0 else 1 : Int32)) (d_139_8 _ c1) (m_32_ok _ _ _ _ _) ?_
    refine zL_ifm (d_139_21 _ _) (fun h => ?_) (fun h => ?_)
    · repeat rw [if_pos h]
      exact zL_ret (d_139_36 _ _)
    · repeat rw [if_neg h]
      exact zL_ret (d_139_24 _ c1)
