/-! pure: X8_atPlace, X8_ordered, X7_queued, X8_queued, X2_answersTo, X7_clue, X8_isAnswer, X8_clue, X7_entry -/
/-! X8_atPlace -/
theorem d_164_0 {B : zeB} {im : Nat → Nat → Int32} {lm : Nat → Nat → Int64} (l1 : Int32) (o2 : Option Value) (o3 : Option Value)  : zeRun 164 0 [some (.ref 170), some (.int l1), o2, o3] [] (zk B im lm) = zeRun 164 4 [some (.ref 170), some (.int l1), some (.int (-1)), some (.int 0)] [] (zk B im lm) := ze_go (ok := true) rfl 4 rfl rfl
theorem d_164_4 {B : zeB} {im : Nat → Nat → Int32} {lm : Nat → Nat → Int64} (l1 : Int32) (l2 : Int32) (l3 : Int32)  : zeRun 164 4 [some (.ref 170), some (.int l1), some (.int l2), some (.int l3)] [] (zk B im lm) = if (im 171 1) ≤ l3 then zeRun 164 35 [some (.ref 170), some (.int l1), some (.int l2), some (.int l3)] [] (zk B im lm) else zeRun 164 14 [some (.ref 170), some (.int l1), some (.int l2), some (.int l3)] [] (zk B im lm) := ze_if (ok := true) rfl 6 rfl rfl
theorem d_164_35 {B : zeB} {im : Nat → Nat → Int32} {lm : Nat → Nat → Int64} (o0 : Option Value) (o1 : Option Value) (l2 : Int32) (o3 : Option Value)  : zeRun 164 35 [o0, o1, some (.int l2), o3] [] (zk B im lm) = some (some (.int l2), (zk B im lm)) := ze_ret (ok := true) rfl 2 rfl rfl
theorem d_164_14 {B : zeB} {im : Nat → Nat → Int32} {lm : Nat → Nat → Int64} (l1 : Int32) (l2 : Int32) (l3 : Int32)  : zeRun 164 14 [some (.ref 170), some (.int l1), some (.int l2), some (.int l3)] [] (zk B im lm) = zeBh 164 19 [some (.ref 170), some (.int l1), some (.int l2), some (.int l3)] [] (zeRun 159 0 [some (.ref 170), some (.int l3), none, none] [] (zk B im lm)) := ze_call (ok := true) rfl 3 rfl rfl rfl
theorem d_164_19 {B : zeB} {im : Nat → Nat → Int32} {lm : Nat → Nat → Int64} (l1 : Int32) (l2 : Int32) (l3 : Int32) (s0 : Int32)  : zeRun 164 19 [some (.ref 170), some (.int l1), some (.int l2), some (.int l3)] [.int s0] (zk B im lm) = if s0 = l1 then zeRun 164 23 [some (.ref 170), some (.int l1), some (.int l2), some (.int l3)] [] (zk B im lm) else zeRun 164 27 [some (.ref 170), some (.int l1), some (.int l2), some (.int l3)] [] (zk B im lm) := ze_if (ok := true) rfl 2 rfl rfl
theorem d_164_23 {B : zeB} {im : Nat → Nat → Int32} {lm : Nat → Nat → Int64} (l1 : Int32) (o2 : Option Value) (l3 : Int32)  : zeRun 164 23 [some (.ref 170), some (.int l1), o2, some (.int l3)] [] (zk B im lm) = zeRun 164 4 [some (.ref 170), some (.int l1), some (.int l3), some (.int (l3 + 1))] [] (zk B im lm) := ze_go (ok := true) rfl 5 rfl rfl
theorem d_164_27 {B : zeB} {im : Nat → Nat → Int32} {lm : Nat → Nat → Int64} (l1 : Int32) (l2 : Int32) (l3 : Int32)  : zeRun 164 27 [some (.ref 170), some (.int l1), some (.int l2), some (.int l3)] [] (zk B im lm) = zeRun 164 4 [some (.ref 170), some (.int l1), some (.int l2), some (.int (l3 + 1))] [] (zk B im lm) := ze_go (ok := true) rfl 4 rfl rfl
def F_164_4  : Nat → Int32 → Int32 → Int32 → zI → zJ → zR
  | 0, _, _, _, _, _ => none
  | n + 1, l1, l2, l3, im, lm =>
    if (im 171 1) ≤ l3 then
      some (l2, im, lm)
    else
      zBd (m_159 l3 im lm) fun v1 im1 lm1 =>
      F_164_4  n l1 (if v1 = l1 then l3 else l2) (l3 + 1) im1 lm1
theorem F_164_4_ok {B : zeB} : ∀ (n : Nat) (l1 : Int32) (l2 : Int32) (l3 : Int32)  (im : zI) (lm : zJ), zL B 1 (F_164_4  n l1 l2 l3 im lm) (zeRun 164 4 [some (.ref 170), some (.int l1), some (.int l2), some (.int l3)] [] (zk B im lm)) := by
  intro n
  induction n with
  | zero => intros; exact zL_none
  | succ n ih =>
    intro l1 l2 l3 im lm
    unfold F_164_4
    refine zL_if (d_164_4 _ _ _) (fun h => ?_) (fun h => ?_)
    · skip
      exact zL_ret (d_164_35 _ _ _ _)
    · skip
      refine zL_bd (d_164_14 _ _ _) (m_159_ok _ _ _) fun v1 im1 lm1 => ?_
      refine zL_ifm (d_164_19 _ _ _ _) (fun h => ?_) (fun h => ?_)
      · repeat rw [if_pos h]
        refine zL_eq (d_164_23 _ _ _) ?_
        exact ih _ _ _ _ _
      · repeat rw [if_neg h]
        refine zL_eq (d_164_27 _ _ _) ?_
        exact ih _ _ _ _ _
def m_164 (l1 : Int32) (im : zI) (lm : zJ) : zR :=
    F_164_4  2000 l1 (-1) 0 im lm
theorem m_164_ok {B : zeB} (l1 : Int32) (im : zI) (lm : zJ) : zL B 1 (m_164 l1 im lm) (zeRun 164 0 [some (.ref 170), some (.int l1), none, none] [] (zk B im lm)) := by
  unfold m_164
  refine zL_eq (d_164_0 _ _ _) ?_
  exact F_164_4_ok  _ _ _ _ _ _
/-! X8_ordered -/
theorem d_165_0 {B : zeB} {im : Nat → Nat → Int32} {lm : Nat → Nat → Int64} (l1 : Int32)  : zeRun 165 0 [some (.ref 170), some (.int l1)] [] (zk B im lm) = if 0 ≤ l1 then zeRun 165 7 [some (.ref 170), some (.int l1)] [] (zk B im lm) else zeRun 165 4 [some (.ref 170), some (.int l1)] [] (zk B im lm) := ze_if (ok := true) rfl 2 rfl rfl
theorem d_165_7 {B : zeB} {im : Nat → Nat → Int32} {lm : Nat → Nat → Int64} (l1 : Int32)  : zeRun 165 7 [some (.ref 170), some (.int l1)] [] (zk B im lm) = zeBh 165 11 [some (.ref 170), some (.int l1)] [] (zeRun 47 0 [some (.ref 170), none, none, none, none, none, none] [] (zk B im lm)) := ze_call (ok := true) rfl 2 rfl rfl rfl
theorem d_165_11 {B : zeB} {im : Nat → Nat → Int32} {lm : Nat → Nat → Int64} (l1 : Int32)  : zeRun 165 11 [some (.ref 170), some (.int l1)] [] (zk B im lm) = zeBh 165 16 [some (.ref 170), some (.int l1)] [] (zeRun 164 0 [some (.ref 170), some (.int l1), none, none] [] (zk B im lm)) := ze_call (ok := true) rfl 3 rfl rfl rfl
theorem d_165_16 {B : zeB} {im : Nat → Nat → Int32} {lm : Nat → Nat → Int64} (o0 : Option Value) (o1 : Option Value) (s0 : Int32)  : zeRun 165 16 [o0, o1] [.int s0] (zk B im lm) = zeBh 165 19 [o0, o1] [] (zeRun 160 0 [some (.int s0)] [] (zk B im lm)) := ze_call (ok := true) rfl 1 rfl rfl rfl
theorem d_165_19 {B : zeB} {im : Nat → Nat → Int32} {lm : Nat → Nat → Int64} (o0 : Option Value) (o1 : Option Value) (s0 : Int32)  : zeRun 165 19 [o0, o1] [.int s0] (zk B im lm) = some (some (.int s0), (zk B im lm)) := ze_ret (ok := true) rfl 1 rfl rfl
theorem d_165_4 {B : zeB} {im : Nat → Nat → Int32} {lm : Nat → Nat → Int64} (o0 : Option Value) (o1 : Option Value)  : zeRun 165 4 [o0, o1] [] (zk B im lm) = some (some (.int (-10000002)), (zk B im lm)) := ze_ret (ok := true) rfl 2 rfl rfl
def m_165 (l1 : Int32) (im : zI) (lm : zJ) : zR :=
    if 0 ≤ l1 then
      zBd (m_47  im lm) fun _ im1 lm1 =>
      zBd (m_164 l1 im1 lm1) fun v2 im2 lm2 =>
      some ((if 0 ≤ v2 then v2 else (-10000005) : Int32), im2, lm2)
    else
      some ((-10000002), im, lm)
theorem m_165_ok {B : zeB} (l1 : Int32) (im : zI) (lm : zJ) : zL B 1 (m_165 l1 im lm) (zeRun 165 0 [some (.ref 170), some (.int l1)] [] (zk B im lm)) := by
  unfold m_165
  refine zL_if (d_165_0 _) (fun h => ?_) (fun h => ?_)
  · skip
    refine zL_bdv (d_165_7 _) (m_47_ok _ _) fun _ im1 lm1 => ?_
    refine zL_bd (d_165_11 _) (m_164_ok _ _ _) fun v2 im2 lm2 => ?_
    refine zL_bdp (e := (if 0 ≤ v2 then v2 else (-10000005) : Int32)) (d_165_16 _ _ _) (m_160_ok _ _ _) ?_
    exact zL_ret (d_165_19 _ _ _)
  · skip
    exact zL_ret (d_165_4 _ _)
/-! X7_queued -/
theorem d_166_0 {B : zeB} {im : Nat → Nat → Int32} {lm : Nat → Nat → Int64} (l1 : Int32)  : zeRun 166 0 [some (.ref 16), some (.int l1)] [] (zk B im lm) = if 0 ≤ l1 then zeRun 166 9 [some (.ref 16), some (.int l1)] [] (zk B im lm) else zeRun 166 4 [some (.ref 16), some (.int l1)] [] (zk B im lm) := ze_if (ok := true) rfl 2 rfl rfl
theorem d_166_9 {B : zeB} {im : Nat → Nat → Int32} {lm : Nat → Nat → Int64} (l1 : Int32)  : zeRun 166 9 [some (.ref 16), some (.int l1)] [] (zk B im lm) = zeBh 166 14 [some (.ref 16), some (.int l1)] [] (zeRun 69 0 [some (.ref 16), some (.int l1), none] [] (zk B im lm)) := ze_call (ok := true) rfl 3 rfl rfl rfl
theorem d_166_14 {B : zeB} {im : Nat → Nat → Int32} {lm : Nat → Nat → Int64} (o0 : Option Value) (o1 : Option Value) (s0 : Int32)  : zeRun 166 14 [o0, o1] [.int s0] (zk B im lm) = some (some (.int s0), (zk B im lm)) := ze_ret (ok := true) rfl 1 rfl rfl
theorem d_166_4 {B : zeB} {im : Nat → Nat → Int32} {lm : Nat → Nat → Int64} (o0 : Option Value) (o1 : Option Value)  : zeRun 166 4 [o0, o1] [] (zk B im lm) = some (some (.int (-10000002)), (zk B im lm)) := ze_ret (ok := true) rfl 3 rfl rfl
def m_166 (l1 : Int32) (im : zI) (lm : zJ) : zR :=
    if 0 ≤ l1 then
      zBd (m_69 l1 im lm) fun v1 im1 lm1 =>
      some (v1, im1, lm1)
    else
      some ((-10000002), im, lm)
theorem m_166_ok {B : zeB} (l1 : Int32) (im : zI) (lm : zJ) : zL B 1 (m_166 l1 im lm) (zeRun 166 0 [some (.ref 16), some (.int l1)] [] (zk B im lm)) := by
  unfold m_166
  refine zL_if (d_166_0 _) (fun h => ?_) (fun h => ?_)
  · skip
    refine zL_bd (d_166_9 _) (m_69_ok _ _ _) fun v1 im1 lm1 => ?_
    exact zL_ret (d_166_14 _ _ _)
  · skip
    exact zL_ret (d_166_4 _ _)
/-! X8_queued -/
theorem d_167_0 {B : zeB} {im : Nat → Nat → Int32} {lm : Nat → Nat → Int64} (l1 : Int32)  : zeRun 167 0 [some (.ref 170), some (.int l1)] [] (zk B im lm) = if 0 ≤ l1 then zeRun 167 7 [some (.ref 170), some (.int l1)] [] (zk B im lm) else zeRun 167 4 [some (.ref 170), some (.int l1)] [] (zk B im lm) := ze_if (ok := true) rfl 2 rfl rfl
theorem d_167_7 {B : zeB} {im : Nat → Nat → Int32} {lm : Nat → Nat → Int64} (l1 : Int32)  : zeRun 167 7 [some (.ref 170), some (.int l1)] [] (zk B im lm) = zeBh 167 11 [some (.ref 170), some (.int l1)] [] (zeRun 47 0 [some (.ref 170), none, none, none, none, none, none] [] (zk B im lm)) := ze_call (ok := true) rfl 2 rfl rfl rfl
theorem d_167_11 {B : zeB} {im : Nat → Nat → Int32} {lm : Nat → Nat → Int64} (l1 : Int32)  : zeRun 167 11 [some (.ref 170), some (.int l1)] [] (zk B im lm) = if (im 171 0) = 1 then zeRun 167 21 [some (.ref 170), some (.int l1)] [] (zk B im lm) else zeRun 167 38 [some (.ref 170), some (.int l1)] [] (zk B im lm) := ze_if (ok := true) rfl 6 rfl rfl
theorem d_167_21 {B : zeB} {im : Nat → Nat → Int32} {lm : Nat → Nat → Int64} (l1 : Int32)  : zeRun 167 21 [some (.ref 170), some (.int l1)] [] (zk B im lm) = zeBh 167 26 [some (.ref 170), some (.int l1)] [.int l1] (zeRun 64 0 [some (.ref 170), none, none, none, none] [] (zk B im lm)) := ze_call (ok := true) rfl 3 rfl rfl rfl
theorem d_167_26 {B : zeB} {im : Nat → Nat → Int32} {lm : Nat → Nat → Int64} (l1 : Int32) (s0 : Int32) (s1 : Int32)  : zeRun 167 26 [some (.ref 170), some (.int l1)] [.int s1, .int s0] (zk B im lm) = if s1 ≤ s0 then zeRun 167 38 [some (.ref 170), some (.int l1)] [] (zk B im lm) else zeRun 167 29 [some (.ref 170), some (.int l1)] [] (zk B im lm) := ze_if (ok := true) rfl 1 rfl rfl
theorem d_167_38 {B : zeB} {im : Nat → Nat → Int32} {lm : Nat → Nat → Int64} (o0 : Option Value) (o1 : Option Value)  : zeRun 167 38 [o0, o1] [] (zk B im lm) = some (some (.int (-10000005)), (zk B im lm)) := ze_ret (ok := true) rfl 2 rfl rfl
theorem d_167_29 {B : zeB} {im : Nat → Nat → Int32} {lm : Nat → Nat → Int64} (l1 : Int32) (c0 : zeInb l1 6 = true) : zeRun 167 29 [some (.ref 170), some (.int l1)] [] (zk B im lm) = some (some (.int (im 182 (Int32.toNatClampNeg l1))), (zk B im lm)) := ze_ret (ok := (zeInb l1 6 && true)) rfl 6 rfl (zeA2 c0 rfl)
theorem d_167_4 {B : zeB} {im : Nat → Nat → Int32} {lm : Nat → Nat → Int64} (o0 : Option Value) (o1 : Option Value)  : zeRun 167 4 [o0, o1] [] (zk B im lm) = some (some (.int (-10000002)), (zk B im lm)) := ze_ret (ok := true) rfl 2 rfl rfl
def m_167 (l1 : Int32) (im : zI) (lm : zJ) : zR :=
    if 0 ≤ l1 then
      zBd (m_47  im lm) fun _ im1 lm1 =>
      if (im1 171 0) = 1 then
        zBd (m_64  im1 lm1) fun v2 im2 lm2 =>
        zCk (if v2 ≤ l1 then true else zeInb l1 6) <|
        some (if v2 ≤ l1 then (-10000005) else (im2 182 (Int32.toNatClampNeg l1)), im2, lm2)
      else
        some ((-10000005), im1, lm1)
    else
      some ((-10000002), im, lm)
theorem m_167_ok {B : zeB} (l1 : Int32) (im : zI) (lm : zJ) : zL B 1 (m_167 l1 im lm) (zeRun 167 0 [some (.ref 170), some (.int l1)] [] (zk B im lm)) := by
  unfold m_167
  refine zL_if (d_167_0 _) (fun h => ?_) (fun h => ?_)
  · skip
    refine zL_bdv (d_167_7 _) (m_47_ok _ _) fun _ im1 lm1 => ?_
    refine zL_if (d_167_11 _) (fun h => ?_) (fun h => ?_)
    · skip
      refine zL_bd (d_167_21 _) (m_64_ok _ _) fun v2 im2 lm2 => ?_
      refine zL_ifm (d_167_26 _ _ _) (fun h => ?_) (fun h => ?_)
      · repeat rw [if_pos h]
        refine zL_ckt ?_
        exact zL_ret (d_167_38 _ _)
      · repeat rw [if_neg h]
        refine zL_ck fun c1 => ?_
        exact zL_ret (d_167_29 _ c1)
    · skip
      exact zL_ret (d_167_38 _ _)
  · skip
    exact zL_ret (d_167_4 _ _)
/-! X2_answersTo -/
theorem d_168_0 {B : zeB} {im : Nat → Nat → Int32} {lm : Nat → Nat → Int64} (l1 : Int32) (o2 : Option Value) (o3 : Option Value)  : zeRun 168 0 [some (.ref 26), some (.int l1), o2, o3] [] (zk B im lm) = zeRun 168 4 [some (.ref 26), some (.int l1), some (.int 0), some (.int 0)] [] (zk B im lm) := ze_go (ok := true) rfl 4 rfl rfl
theorem d_168_4 {B : zeB} {im : Nat → Nat → Int32} {lm : Nat → Nat → Int64} (l1 : Int32) (l2 : Int32) (l3 : Int32)  : zeRun 168 4 [some (.ref 26), some (.int l1), some (.int l2), some (.int l3)] [] (zk B im lm) = if (im 26 0) ≤ l3 then zeRun 168 31 [some (.ref 26), some (.int l1), some (.int l2), some (.int l3)] [] (zk B im lm) else zeRun 168 12 [some (.ref 26), some (.int l1), some (.int l2), some (.int l3)] [] (zk B im lm) := ze_if (ok := true) rfl 4 rfl rfl
theorem d_168_31 {B : zeB} {im : Nat → Nat → Int32} {lm : Nat → Nat → Int64} (o0 : Option Value) (o1 : Option Value) (l2 : Int32) (o3 : Option Value)  : zeRun 168 31 [o0, o1, some (.int l2), o3] [] (zk B im lm) = some (some (.int l2), (zk B im lm)) := ze_ret (ok := true) rfl 2 rfl rfl
theorem d_168_12 {B : zeB} {im : Nat → Nat → Int32} {lm : Nat → Nat → Int64} (l1 : Int32) (l2 : Int32) (l3 : Int32) (c0 : zeInb l3 60 = true) : zeRun 168 12 [some (.ref 26), some (.int l1), some (.int l2), some (.int l3)] [] (zk B im lm) = if (im 29 (Int32.toNatClampNeg l3)) = l1 then zeRun 168 22 [some (.ref 26), some (.int l1), some (.int l2), some (.int l3)] [] (zk B im lm) else zeRun 168 25 [some (.ref 26), some (.int l1), some (.int l2), some (.int l3)] [] (zk B im lm) := ze_if (ok := (zeInb l3 60 && true)) rfl 6 rfl (zeA2 c0 rfl)
theorem d_168_22 {B : zeB} {im : Nat → Nat → Int32} {lm : Nat → Nat → Int64} (l1 : Int32) (l2 : Int32) (l3 : Int32)  : zeRun 168 22 [some (.ref 26), some (.int l1), some (.int l2), some (.int l3)] [] (zk B im lm) = zeRun 168 4 [some (.ref 26), some (.int l1), some (.int (l2 + 1)), some (.int (l3 + 1))] [] (zk B im lm) := ze_go (ok := true) rfl 3 rfl rfl
theorem d_168_25 {B : zeB} {im : Nat → Nat → Int32} {lm : Nat → Nat → Int64} (l1 : Int32) (l2 : Int32) (l3 : Int32)  : zeRun 168 25 [some (.ref 26), some (.int l1), some (.int l2), some (.int l3)] [] (zk B im lm) = zeRun 168 4 [some (.ref 26), some (.int l1), some (.int l2), some (.int (l3 + 1))] [] (zk B im lm) := ze_go (ok := true) rfl 2 rfl rfl
def F_168_4  : Nat → Int32 → Int32 → Int32 → zI → zJ → zR
  | 0, _, _, _, _, _ => none
  | n + 1, l1, l2, l3, im, lm =>
    if (im 26 0) ≤ l3 then
      some (l2, im, lm)
    else
      zCk (zeInb l3 60) <|
      F_168_4  n l1 (if (im 29 (Int32.toNatClampNeg l3)) = l1 then (l2 + 1) else l2) (l3 + 1) im lm
theorem F_168_4_ok {B : zeB} : ∀ (n : Nat) (l1 : Int32) (l2 : Int32) (l3 : Int32)  (im : zI) (lm : zJ), zL B 1 (F_168_4  n l1 l2 l3 im lm) (zeRun 168 4 [some (.ref 26), some (.int l1), some (.int l2), some (.int l3)] [] (zk B im lm)) := by
  intro n
  induction n with
  | zero => intros; exact zL_none
  | succ n ih =>
    intro l1 l2 l3 im lm
    unfold F_168_4
    refine zL_if (d_168_4 _ _ _) (fun h => ?_) (fun h => ?_)
    · skip
      exact zL_ret (d_168_31 _ _ _ _)
    · skip
      refine zL_ck fun c1 => ?_
      refine zL_ifm (d_168_12 _ _ _ c1) (fun h => ?_) (fun h => ?_)
      · repeat rw [if_pos h]
        refine zL_eq (d_168_22 _ _ _) ?_
        exact ih _ _ _ _ _
      · repeat rw [if_neg h]
        refine zL_eq (d_168_25 _ _ _) ?_
        exact ih _ _ _ _ _
def m_168 (l1 : Int32) (im : zI) (lm : zJ) : zR :=
    F_168_4  2000 l1 0 0 im lm
theorem m_168_ok {B : zeB} (l1 : Int32) (im : zI) (lm : zJ) : zL B 1 (m_168 l1 im lm) (zeRun 168 0 [some (.ref 26), some (.int l1), none, none] [] (zk B im lm)) := by
  unfold m_168
  refine zL_eq (d_168_0 _ _ _) ?_
  exact F_168_4_ok  _ _ _ _ _ _
/-! X7_clue -/
theorem d_169_0 {B : zeB} {im : Nat → Nat → Int32} {lm : Nat → Nat → Int64} (l1 : Int32) (l2 : Int32)  : zeRun 169 0 [some (.ref 16), some (.int l1), some (.int l2)] [] (zk B im lm) = zeBh 169 4 [some (.ref 16), some (.int l1), some (.int l2)] [] (zeRun 27 0 [some (.int l1)] [] (zk B im lm)) := ze_call (ok := true) rfl 2 rfl rfl rfl
theorem d_169_4 {B : zeB} {im : Nat → Nat → Int32} {lm : Nat → Nat → Int64} (l1 : Int32) (l2 : Int32) (s0 : Int32)  : zeRun 169 4 [some (.ref 16), some (.int l1), some (.int l2)] [.int s0] (zk B im lm) = if s0 = 0 then zeRun 169 7 [some (.ref 16), some (.int l1), some (.int l2)] [] (zk B im lm) else zeRun 169 10 [some (.ref 16), some (.int l1), some (.int l2)] [] (zk B im lm) := ze_if (ok := true) rfl 1 rfl rfl
theorem d_169_7 {B : zeB} {im : Nat → Nat → Int32} {lm : Nat → Nat → Int64} (o0 : Option Value) (o1 : Option Value) (o2 : Option Value)  : zeRun 169 7 [o0, o1, o2] [] (zk B im lm) = some (some (.int (-10000001)), (zk B im lm)) := ze_ret (ok := true) rfl 2 rfl rfl
theorem d_169_10 {B : zeB} {im : Nat → Nat → Int32} {lm : Nat → Nat → Int64} (l1 : Int32) (l2 : Int32)  : zeRun 169 10 [some (.ref 16), some (.int l1), some (.int l2)] [] (zk B im lm) = zeRun 169 (zeSw l2 95 [(0, 44), (1, 49), (2, 61), (3, 73), (4, 85)]) [some (.ref 16), some (.int l1), some (.int l2)] [] (zk B im lm) := ze_go (ok := true) rfl 2 rfl rfl
theorem d_169_44 {B : zeB} {im : Nat → Nat → Int32} {lm : Nat → Nat → Int64} (o0 : Option Value) (l1 : Int32) (o2 : Option Value)  : zeRun 169 44 [o0, some (.int l1), o2] [] (zk B im lm) = zeBh 169 48 [o0, some (.int l1), o2] [] (zeRun 41 0 [some (.int l1)] [] (zk B im lm)) := ze_call (ok := true) rfl 2 rfl rfl rfl
theorem d_169_48 {B : zeB} {im : Nat → Nat → Int32} {lm : Nat → Nat → Int64} (o0 : Option Value) (o1 : Option Value) (o2 : Option Value) (s0 : Int32)  : zeRun 169 48 [o0, o1, o2] [.int s0] (zk B im lm) = some (some (.int s0), (zk B im lm)) := ze_ret (ok := true) rfl 1 rfl rfl
theorem d_169_49 {B : zeB} {im : Nat → Nat → Int32} {lm : Nat → Nat → Int64} (l1 : Int32) (o2 : Option Value)  : zeRun 169 49 [some (.ref 16), some (.int l1), o2] [] (zk B im lm) = zeBh 169 60 [some (.ref 16), some (.int l1), o2] [] (zeRun 28 0 [some (.int (im 17 2)), some (.int l1)] [] (zk B im lm)) := ze_call (ok := true) rfl 5 rfl rfl rfl
theorem d_169_60 {B : zeB} {im : Nat → Nat → Int32} {lm : Nat → Nat → Int64} (o0 : Option Value) (o1 : Option Value) (o2 : Option Value) (s0 : Int32)  : zeRun 169 60 [o0, o1, o2] [.int s0] (zk B im lm) = some (some (.int s0), (zk B im lm)) := ze_ret (ok := true) rfl 1 rfl rfl
theorem d_169_61 {B : zeB} {im : Nat → Nat → Int32} {lm : Nat → Nat → Int64} (l1 : Int32) (o2 : Option Value)  : zeRun 169 61 [some (.ref 16), some (.int l1), o2] [] (zk B im lm) = zeBh 169 72 [some (.ref 16), some (.int l1), o2] [] (zeRun 28 0 [some (.int (im 17 3)), some (.int l1)] [] (zk B im lm)) := ze_call (ok := true) rfl 5 rfl rfl rfl
theorem d_169_72 {B : zeB} {im : Nat → Nat → Int32} {lm : Nat → Nat → Int64} (o0 : Option Value) (o1 : Option Value) (o2 : Option Value) (s0 : Int32)  : zeRun 169 72 [o0, o1, o2] [.int s0] (zk B im lm) = some (some (.int s0), (zk B im lm)) := ze_ret (ok := true) rfl 1 rfl rfl
theorem d_169_73 {B : zeB} {im : Nat → Nat → Int32} {lm : Nat → Nat → Int64} (l1 : Int32) (o2 : Option Value)  : zeRun 169 73 [some (.ref 16), some (.int l1), o2] [] (zk B im lm) = zeBh 169 84 [some (.ref 16), some (.int l1), o2] [] (zeRun 168 0 [some (.ref 26), some (.int l1), none, none] [] (zk B im lm)) := ze_call (ok := true) rfl 5 rfl rfl rfl
theorem d_169_84 {B : zeB} {im : Nat → Nat → Int32} {lm : Nat → Nat → Int64} (o0 : Option Value) (o1 : Option Value) (o2 : Option Value) (s0 : Int32)  : zeRun 169 84 [o0, o1, o2] [.int s0] (zk B im lm) = some (some (.int s0), (zk B im lm)) := ze_ret (ok := true) rfl 1 rfl rfl
theorem d_169_85 {B : zeB} {im : Nat → Nat → Int32} {lm : Nat → Nat → Int64} (l1 : Int32) (o2 : Option Value) (c0 : zeInb l1 25 = true) : zeRun 169 85 [some (.ref 16), some (.int l1), o2] [] (zk B im lm) = some (some (.int (im 37 (Int32.toNatClampNeg l1))), (zk B im lm)) := ze_ret (ok := (zeInb l1 25 && true)) rfl 6 rfl (zeA2 c0 rfl)
theorem d_169_95 {B : zeB} {im : Nat → Nat → Int32} {lm : Nat → Nat → Int64} (o0 : Option Value) (o1 : Option Value) (o2 : Option Value)  : zeRun 169 95 [o0, o1, o2] [] (zk B im lm) = some (some (.int (-10000002)), (zk B im lm)) := ze_ret (ok := true) rfl 2 rfl rfl
def m_169 (l1 : Int32) (l2 : Int32) (im : zI) (lm : zJ) : zR :=
    if (if l1 < 0 then 0 else if 25 ≤ l1 then 0 else 1 : Int32) = 0 then
      some ((-10000001), im, lm)
    else
      if l2 = 0 then
        some (((100 * ((l1 / 5) + 1)) : Int32), im, lm)
      else
        if l2 = 1 then
          some (((((im 17 2) >>> (l1 &&& 31)) &&& 1) : Int32), im, lm)
        else
          if l2 = 2 then
            some (((((im 17 3) >>> (l1 &&& 31)) &&& 1) : Int32), im, lm)
          else
            if l2 = 3 then
              zBd (m_168 l1 im lm) fun v5 im5 lm5 =>
              some (v5, im5, lm5)
            else
              if l2 = 4 then
                zCk (zeInb l1 25) <|
                some ((im 37 (Int32.toNatClampNeg l1)), im, lm)
              else
                some ((-10000002), im, lm)
theorem m_169_ok {B : zeB} (l1 : Int32) (l2 : Int32) (im : zI) (lm : zJ) : zL B 1 (m_169 l1 l2 im lm) (zeRun 169 0 [some (.ref 16), some (.int l1), some (.int l2)] [] (zk B im lm)) := by
  unfold m_169
  refine zL_bdp (e := (if l1 < 0 then 0 else if 25 ≤ l1 then 0 else 1 : Int32)) (d_169_0 _ _) (m_27_ok _ _ _) ?_
  refine zL_if (d_169_4 _ _ _) (fun h => ?_) (fun h => ?_)
  · skip
    exact zL_ret (d_169_7 _ _ _)
  · skip
    refine zL_eq (d_169_10 _ _) ?_
    refine zL_sw (fun h => ?_) (fun h => ?_)
    · skip
      refine zL_bdp (e := ((100 * ((l1 / 5) + 1)) : Int32)) (d_169_44 _ _ _) (m_41_ok _ _ _) ?_
      exact zL_ret (d_169_48 _ _ _ _)
    refine zL_sw (fun h => ?_) (fun h => ?_)
    · skip
      refine zL_bdp (e := ((((im 17 2) >>> (l1 &&& 31)) &&& 1) : Int32)) (d_169_49 _ _) (m_28_ok _ _ _ _) ?_
      exact zL_ret (d_169_60 _ _ _ _)
    refine zL_sw (fun h => ?_) (fun h => ?_)
    · skip
      refine zL_bdp (e := ((((im 17 3) >>> (l1 &&& 31)) &&& 1) : Int32)) (d_169_61 _ _) (m_28_ok _ _ _ _) ?_
      exact zL_ret (d_169_72 _ _ _ _)
    refine zL_sw (fun h => ?_) (fun h => ?_)
    · skip
      refine zL_bd (d_169_73 _ _) (m_168_ok _ _ _) fun v5 im5 lm5 => ?_
      exact zL_ret (d_169_84 _ _ _ _)
    refine zL_sw (fun h => ?_) (fun h => ?_)
    · skip
      refine zL_ck fun c1 => ?_
      exact zL_ret (d_169_85 _ _ c1)
    refine zL_swd ?_
    exact zL_ret (d_169_95 _ _ _)
/-! X8_isAnswer -/
theorem d_170_0 {B : zeB} {im : Nat → Nat → Int32} {lm : Nat → Nat → Int64} (l1 : Int32) (l2 : Int32)  : zeRun 170 0 [some (.ref 170), some (.int l1), some (.int l2)] [] (zk B im lm) = zeBh 170 8 [some (.ref 170), some (.int l1), some (.int l2)] [.ref 171] (zeRun 45 0 [some (.int l1)] [] (zk B im lm)) := ze_call (ok := true) rfl 4 rfl rfl rfl
theorem d_170_8 {B : zeB} {im : Nat → Nat → Int32} {lm : Nat → Nat → Int64} (l1 : Int32) (l2 : Int32) (s1 : Int32) (c0 : zeInb (s1 + 1) 360 = true) : zeRun 170 8 [some (.ref 170), some (.int l1), some (.int l2)] [.int s1, .ref 171] (zk B im lm) = if 3 ≤ (im 171 (Int32.toNatClampNeg (s1 + 1))) then zeRun 170 34 [some (.ref 170), some (.int l1), some (.int l2)] [] (zk B im lm) else zeRun 170 15 [some (.ref 170), some (.int l1), some (.int l2)] [] (zk B im lm) := ze_if (ok := (zeInb (s1 + 1) 360 && true)) rfl 5 rfl (zeA2 c0 rfl)
theorem d_170_34 {B : zeB} {im : Nat → Nat → Int32} {lm : Nat → Nat → Int64} (o0 : Option Value) (o1 : Option Value) (o2 : Option Value)  : zeRun 170 34 [o0, o1, o2] [] (zk B im lm) = some (some (.int 0), (zk B im lm)) := ze_ret (ok := true) rfl 2 rfl rfl
theorem d_170_15 {B : zeB} {im : Nat → Nat → Int32} {lm : Nat → Nat → Int64} (l1 : Int32) (l2 : Int32)  : zeRun 170 15 [some (.ref 170), some (.int l1), some (.int l2)] [] (zk B im lm) = zeBh 170 23 [some (.ref 170), some (.int l1), some (.int l2)] [.ref 171] (zeRun 45 0 [some (.int l1)] [] (zk B im lm)) := ze_call (ok := true) rfl 4 rfl rfl rfl
theorem d_170_23 {B : zeB} {im : Nat → Nat → Int32} {lm : Nat → Nat → Int64} (o0 : Option Value) (o1 : Option Value) (l2 : Int32) (s1 : Int32) (c0 : zeInb (s1 + 2) 360 = true) : zeRun 170 23 [o0, o1, some (.int l2)] [.int s1, .ref 171] (zk B im lm) = if (im 171 (Int32.toNatClampNeg (s1 + 2))) = l2 then zeRun 170 30 [o0, o1, some (.int l2)] [] (zk B im lm) else zeRun 170 34 [o0, o1, some (.int l2)] [] (zk B im lm) := ze_if (ok := (zeInb (s1 + 2) 360 && true)) rfl 5 rfl (zeA2 c0 rfl)
theorem d_170_30 {B : zeB} {im : Nat → Nat → Int32} {lm : Nat → Nat → Int64} (o0 : Option Value) (o1 : Option Value) (o2 : Option Value)  : zeRun 170 30 [o0, o1, o2] [] (zk B im lm) = some (some (.int 1), (zk B im lm)) := ze_ret (ok := true) rfl 3 rfl rfl
def m_170 (l1 : Int32) (l2 : Int32) (im : zI) (lm : zJ) : zR :=
    zCk (zeInb (((60 + (5 * l1)) : Int32) + 1) 360) <|
    zCk (if 3 ≤ (im 171 (Int32.toNatClampNeg (((60 + (5 * l1)) : Int32) + 1))) then true else zeInb (((60 + (5 * l1)) : Int32) + 2) 360) <|
    some (if 3 ≤ (im 171 (Int32.toNatClampNeg (((60 + (5 * l1)) : Int32) + 1))) then 0 else if (im 171 (Int32.toNatClampNeg (((60 + (5 * l1)) : Int32) + 2))) = l2 then 1 else 0, im, lm)
theorem m_170_ok {B : zeB} (l1 : Int32) (l2 : Int32) (im : zI) (lm : zJ) : zL B 1 (m_170 l1 l2 im lm) (zeRun 170 0 [some (.ref 170), some (.int l1), some (.int l2)] [] (zk B im lm)) := by
  unfold m_170
  refine zL_bdp (e := ((60 + (5 * l1)) : Int32)) (d_170_0 _ _) (m_45_ok _ _ _) ?_
  refine zL_ck fun c1 => ?_
  refine zL_ifm (d_170_8 _ _ _ c1) (fun h => ?_) (fun h => ?_)
  · repeat rw [if_pos h]
    refine zL_ckt ?_
    exact zL_ret (d_170_34 _ _ _)
  · repeat rw [if_neg h]
    refine zL_bdp (e := ((60 + (5 * l1)) : Int32)) (d_170_15 _ _) (m_45_ok _ _ _) ?_
    refine zL_ck fun c2 => ?_
    refine zL_ifm (d_170_23 _ _ _ _ c2) (fun h => ?_) (fun h => ?_)
    · repeat rw [if_pos h]
      exact zL_ret (d_170_30 _ _ _)
    · repeat rw [if_neg h]
      exact zL_ret (d_170_34 _ _ _)
/-! X8_clue -/
theorem d_171_0 {B : zeB} {im : Nat → Nat → Int32} {lm : Nat → Nat → Int64} (l1 : Int32) (l2 : Int32) (o3 : Option Value) (o4 : Option Value) (o5 : Option Value)  : zeRun 171 0 [some (.ref 170), some (.int l1), some (.int l2), o3, o4, o5] [] (zk B im lm) = zeBh 171 7 [some (.ref 170), some (.int l1), some (.int l2), o3, o4, o5] [] (zeRun 32 0 [some (.int l1), some (.int 0), some (.int 24)] [] (zk B im lm)) := ze_call (ok := true) rfl 4 rfl rfl rfl
theorem d_171_7 {B : zeB} {im : Nat → Nat → Int32} {lm : Nat → Nat → Int64} (l1 : Int32) (l2 : Int32) (o3 : Option Value) (o4 : Option Value) (o5 : Option Value) (s0 : Int32)  : zeRun 171 7 [some (.ref 170), some (.int l1), some (.int l2), o3, o4, o5] [.int s0] (zk B im lm) = if s0 = 0 then zeRun 171 10 [some (.ref 170), some (.int l1), some (.int l2), o3, o4, o5] [] (zk B im lm) else zeRun 171 13 [some (.ref 170), some (.int l1), some (.int l2), o3, o4, o5] [] (zk B im lm) := ze_if (ok := true) rfl 1 rfl rfl
theorem d_171_10 {B : zeB} {im : Nat → Nat → Int32} {lm : Nat → Nat → Int64} (o0 : Option Value) (o1 : Option Value) (o2 : Option Value) (o3 : Option Value) (o4 : Option Value) (o5 : Option Value)  : zeRun 171 10 [o0, o1, o2, o3, o4, o5] [] (zk B im lm) = some (some (.int (-10000001)), (zk B im lm)) := ze_ret (ok := true) rfl 2 rfl rfl
theorem d_171_13 {B : zeB} {im : Nat → Nat → Int32} {lm : Nat → Nat → Int64} (l1 : Int32) (l2 : Int32) (o3 : Option Value) (o4 : Option Value) (o5 : Option Value)  : zeRun 171 13 [some (.ref 170), some (.int l1), some (.int l2), o3, o4, o5] [] (zk B im lm) = zeBh 171 17 [some (.ref 170), some (.int l1), some (.int l2), o3, o4, o5] [] (zeRun 47 0 [some (.ref 170), none, none, none, none, none, none] [] (zk B im lm)) := ze_call (ok := true) rfl 2 rfl rfl rfl
theorem d_171_17 {B : zeB} {im : Nat → Nat → Int32} {lm : Nat → Nat → Int64} (l1 : Int32) (l2 : Int32) (o3 : Option Value) (o4 : Option Value) (o5 : Option Value)  : zeRun 171 17 [some (.ref 170), some (.int l1), some (.int l2), o3, o4, o5] [] (zk B im lm) = zeRun 171 26 [some (.ref 170), some (.int l1), some (.int l2), some (.int 0), some (.int (-10000005)), some (.int 0)] [] (zk B im lm) := ze_go (ok := true) rfl 6 rfl rfl
theorem d_171_26 {B : zeB} {im : Nat → Nat → Int32} {lm : Nat → Nat → Int64} (l1 : Int32) (l2 : Int32) (l3 : Int32) (l4 : Int32) (l5 : Int32)  : zeRun 171 26 [some (.ref 170), some (.int l1), some (.int l2), some (.int l3), some (.int l4), some (.int l5)] [] (zk B im lm) = if (im 171 5) ≤ l5 then zeRun 171 114 [some (.ref 170), some (.int l1), some (.int l2), some (.int l3), some (.int l4), some (.int l5)] [] (zk B im lm) else zeRun 171 37 [some (.ref 170), some (.int l1), some (.int l2), some (.int l3), some (.int l4), some (.int l5)] [] (zk B im lm) := ze_if (ok := true) rfl 6 rfl rfl
theorem d_171_114 {B : zeB} {im : Nat → Nat → Int32} {lm : Nat → Nat → Int64} (l1 : Int32) (l2 : Int32) (l3 : Int32) (l4 : Int32) (o5 : Option Value)  : zeRun 171 114 [some (.ref 170), some (.int l1), some (.int l2), some (.int l3), some (.int l4), o5] [] (zk B im lm) = zeRun 171 (zeSw l2 182 [(0, 148), (1, 153), (2, 165), (3, 177), (4, 179)]) [some (.ref 170), some (.int l1), some (.int l2), some (.int l3), some (.int l4), o5] [] (zk B im lm) := ze_go (ok := true) rfl 2 rfl rfl
theorem d_171_148 {B : zeB} {im : Nat → Nat → Int32} {lm : Nat → Nat → Int64} (o0 : Option Value) (l1 : Int32) (o2 : Option Value) (o3 : Option Value) (o4 : Option Value) (o5 : Option Value)  : zeRun 171 148 [o0, some (.int l1), o2, o3, o4, o5] [] (zk B im lm) = zeBh 171 152 [o0, some (.int l1), o2, o3, o4, o5] [] (zeRun 49 0 [some (.int l1)] [] (zk B im lm)) := ze_call (ok := true) rfl 2 rfl rfl rfl
theorem d_171_152 {B : zeB} {im : Nat → Nat → Int32} {lm : Nat → Nat → Int64} (o0 : Option Value) (o1 : Option Value) (o2 : Option Value) (o3 : Option Value) (o4 : Option Value) (o5 : Option Value) (s0 : Int32)  : zeRun 171 152 [o0, o1, o2, o3, o4, o5] [.int s0] (zk B im lm) = some (some (.int s0), (zk B im lm)) := ze_ret (ok := true) rfl 1 rfl rfl
theorem d_171_153 {B : zeB} {im : Nat → Nat → Int32} {lm : Nat → Nat → Int64} (l1 : Int32) (o2 : Option Value) (o3 : Option Value) (o4 : Option Value) (o5 : Option Value)  : zeRun 171 153 [some (.ref 170), some (.int l1), o2, o3, o4, o5] [] (zk B im lm) = some (some (.int (((im 171 11) >>> (l1 &&& 31)) &&& 1)), (zk B im lm)) := ze_ret (ok := true) rfl 9 rfl rfl
theorem d_171_165 {B : zeB} {im : Nat → Nat → Int32} {lm : Nat → Nat → Int64} (l1 : Int32) (o2 : Option Value) (o3 : Option Value) (o4 : Option Value) (o5 : Option Value)  : zeRun 171 165 [some (.ref 170), some (.int l1), o2, o3, o4, o5] [] (zk B im lm) = some (some (.int (((im 171 10) >>> (l1 &&& 31)) &&& 1)), (zk B im lm)) := ze_ret (ok := true) rfl 9 rfl rfl
theorem d_171_177 {B : zeB} {im : Nat → Nat → Int32} {lm : Nat → Nat → Int64} (o0 : Option Value) (o1 : Option Value) (o2 : Option Value) (l3 : Int32) (o4 : Option Value) (o5 : Option Value)  : zeRun 171 177 [o0, o1, o2, some (.int l3), o4, o5] [] (zk B im lm) = some (some (.int l3), (zk B im lm)) := ze_ret (ok := true) rfl 2 rfl rfl
theorem d_171_179 {B : zeB} {im : Nat → Nat → Int32} {lm : Nat → Nat → Int64} (o0 : Option Value) (o1 : Option Value) (o2 : Option Value) (o3 : Option Value) (l4 : Int32) (o5 : Option Value)  : zeRun 171 179 [o0, o1, o2, o3, some (.int l4), o5] [] (zk B im lm) = some (some (.int l4), (zk B im lm)) := ze_ret (ok := true) rfl 2 rfl rfl
theorem d_171_182 {B : zeB} {im : Nat → Nat → Int32} {lm : Nat → Nat → Int64} (o0 : Option Value) (o1 : Option Value) (o2 : Option Value) (o3 : Option Value) (o4 : Option Value) (o5 : Option Value)  : zeRun 171 182 [o0, o1, o2, o3, o4, o5] [] (zk B im lm) = some (some (.int (-10000002)), (zk B im lm)) := ze_ret (ok := true) rfl 2 rfl rfl
theorem d_171_37 {B : zeB} {im : Nat → Nat → Int32} {lm : Nat → Nat → Int64} (l1 : Int32) (l2 : Int32) (l3 : Int32) (l4 : Int32) (l5 : Int32)  : zeRun 171 37 [some (.ref 170), some (.int l1), some (.int l2), some (.int l3), some (.int l4), some (.int l5)] [] (zk B im lm) = zeBh 171 45 [some (.ref 170), some (.int l1), some (.int l2), some (.int l3), some (.int l4), some (.int l5)] [.int l3] (zeRun 170 0 [some (.ref 170), some (.int l5), some (.int l1)] [] (zk B im lm)) := ze_call (ok := true) rfl 5 rfl rfl rfl
theorem d_171_45 {B : zeB} {im : Nat → Nat → Int32} {lm : Nat → Nat → Int64} (l1 : Int32) (l2 : Int32) (o3 : Option Value) (l4 : Int32) (l5 : Int32) (s0 : Int32) (s1 : Int32)  : zeRun 171 45 [some (.ref 170), some (.int l1), some (.int l2), o3, some (.int l4), some (.int l5)] [.int s1, .int s0] (zk B im lm) = if s1 = 0 then zeRun 171 52 [some (.ref 170), some (.int l1), some (.int l2), o3, some (.int l4), some (.int l5)] [.int s0] (zk B im lm) else zeRun 171 48 [some (.ref 170), some (.int l1), some (.int l2), o3, some (.int l4), some (.int l5)] [.int s0] (zk B im lm) := ze_if (ok := true) rfl 1 rfl rfl
theorem d_171_52 {B : zeB} {im : Nat → Nat → Int32} {lm : Nat → Nat → Int64} (l1 : Int32) (l2 : Int32) (o3 : Option Value) (l4 : Int32) (l5 : Int32) (s0 : Int32)  : zeRun 171 52 [some (.ref 170), some (.int l1), some (.int l2), o3, some (.int l4), some (.int l5)] [.int s0] (zk B im lm) = zeRun 171 53 [some (.ref 170), some (.int l1), some (.int l2), o3, some (.int l4), some (.int l5)] [.int 0, .int s0] (zk B im lm) := ze_go (ok := true) rfl 1 rfl rfl
theorem d_171_48 {B : zeB} {im : Nat → Nat → Int32} {lm : Nat → Nat → Int64} (l1 : Int32) (l2 : Int32) (o3 : Option Value) (l4 : Int32) (l5 : Int32) (s0 : Int32)  : zeRun 171 48 [some (.ref 170), some (.int l1), some (.int l2), o3, some (.int l4), some (.int l5)] [.int s0] (zk B im lm) = zeRun 171 53 [some (.ref 170), some (.int l1), some (.int l2), o3, some (.int l4), some (.int l5)] [.int 1, .int s0] (zk B im lm) := ze_go (ok := true) rfl 2 rfl rfl
theorem d_171_53 {B : zeB} {im : Nat → Nat → Int32} {lm : Nat → Nat → Int64} (l1 : Int32) (l2 : Int32) (o3 : Option Value) (l4 : Int32) (l5 : Int32) (s0 : Int32) (s1 : Int32)  : zeRun 171 53 [some (.ref 170), some (.int l1), some (.int l2), o3, some (.int l4), some (.int l5)] [.int s1, .int s0] (zk B im lm) = zeBh 171 62 [some (.ref 170), some (.int l1), some (.int l2), some (.int (s0 + s1)), some (.int l4), some (.int l5)] [] (zeRun 170 0 [some (.ref 170), some (.int l5), some (.int l1)] [] (zk B im lm)) := ze_call (ok := true) rfl 6 rfl rfl rfl
theorem d_171_62 {B : zeB} {im : Nat → Nat → Int32} {lm : Nat → Nat → Int64} (l1 : Int32) (l2 : Int32) (l3 : Int32) (l4 : Int32) (l5 : Int32) (s0 : Int32)  : zeRun 171 62 [some (.ref 170), some (.int l1), some (.int l2), some (.int l3), some (.int l4), some (.int l5)] [.int s0] (zk B im lm) = if s0 = 0 then zeRun 171 104 [some (.ref 170), some (.int l1), some (.int l2), some (.int l3), some (.int l4), some (.int l5)] [] (zk B im lm) else zeRun 171 65 [some (.ref 170), some (.int l1), some (.int l2), some (.int l3), some (.int l4), some (.int l5)] [] (zk B im lm) := ze_if (ok := true) rfl 1 rfl rfl
theorem d_171_104 {B : zeB} {im : Nat → Nat → Int32} {lm : Nat → Nat → Int64} (l1 : Int32) (l2 : Int32) (l3 : Int32) (l4 : Int32) (l5 : Int32)  : zeRun 171 104 [some (.ref 170), some (.int l1), some (.int l2), some (.int l3), some (.int l4), some (.int l5)] [] (zk B im lm) = zeRun 171 26 [some (.ref 170), some (.int l1), some (.int l2), some (.int l3), some (.int l4), some (.int (l5 + 1))] [] (zk B im lm) := ze_go (ok := true) rfl 4 rfl rfl
theorem d_171_65 {B : zeB} {im : Nat → Nat → Int32} {lm : Nat → Nat → Int64} (l1 : Int32) (l2 : Int32) (l3 : Int32) (l4 : Int32) (l5 : Int32)  : zeRun 171 65 [some (.ref 170), some (.int l1), some (.int l2), some (.int l3), some (.int l4), some (.int l5)] [] (zk B im lm) = zeBh 171 74 [some (.ref 170), some (.int l1), some (.int l2), some (.int l3), some (.int l4), some (.int l5)] [.ref 171] (zeRun 45 0 [some (.int l5)] [] (zk B im lm)) := ze_call (ok := true) rfl 4 rfl rfl rfl
theorem d_171_74 {B : zeB} {im : Nat → Nat → Int32} {lm : Nat → Nat → Int64} (l1 : Int32) (l2 : Int32) (l3 : Int32) (l4 : Int32) (l5 : Int32) (s1 : Int32) (c0 : zeInb (s1 + 4) 360 = true) : zeRun 171 74 [some (.ref 170), some (.int l1), some (.int l2), some (.int l3), some (.int l4), some (.int l5)] [.int s1, .ref 171] (zk B im lm) = if (im 171 (Int32.toNatClampNeg (s1 + 4))) = 1 then zeRun 171 81 [some (.ref 170), some (.int l1), some (.int l2), some (.int l3), some (.int l4), some (.int l5)] [] (zk B im lm) else zeRun 171 104 [some (.ref 170), some (.int l1), some (.int l2), some (.int l3), some (.int l4), some (.int l5)] [] (zk B im lm) := ze_if (ok := (zeInb (s1 + 4) 360 && true)) rfl 5 rfl (zeA2 c0 rfl)
theorem d_171_81 {B : zeB} {im : Nat → Nat → Int32} {lm : Nat → Nat → Int64} (l1 : Int32) (l2 : Int32) (l3 : Int32) (l4 : Int32) (l5 : Int32) (c0 : zeInb l5 60 = true) : zeRun 171 81 [some (.ref 170), some (.int l1), some (.int l2), some (.int l3), some (.int l4), some (.int l5)] [] (zk B im lm) = if (im 177 (Int32.toNatClampNeg l5)) = 0 then zeRun 171 91 [some (.ref 170), some (.int l1), some (.int l2), some (.int l3), some (.int l4), some (.int l5)] [] (zk B im lm) else zeRun 171 104 [some (.ref 170), some (.int l1), some (.int l2), some (.int l3), some (.int l4), some (.int l5)] [] (zk B im lm) := ze_if (ok := (zeInb l5 60 && true)) rfl 5 rfl (zeA2 c0 rfl)
theorem d_171_91 {B : zeB} {im : Nat → Nat → Int32} {lm : Nat → Nat → Int64} (l1 : Int32) (l2 : Int32) (l3 : Int32) (o4 : Option Value) (l5 : Int32)  : zeRun 171 91 [some (.ref 170), some (.int l1), some (.int l2), some (.int l3), o4, some (.int l5)] [] (zk B im lm) = zeBh 171 100 [some (.ref 170), some (.int l1), some (.int l2), some (.int l3), o4, some (.int l5)] [.ref 171] (zeRun 45 0 [some (.int l5)] [] (zk B im lm)) := ze_call (ok := true) rfl 4 rfl rfl rfl
theorem d_171_100 {B : zeB} {im : Nat → Nat → Int32} {lm : Nat → Nat → Int64} (l1 : Int32) (l2 : Int32) (l3 : Int32) (o4 : Option Value) (l5 : Int32) (s1 : Int32) (c0 : zeInb s1 360 = true) : zeRun 171 100 [some (.ref 170), some (.int l1), some (.int l2), some (.int l3), o4, some (.int l5)] [.int s1, .ref 171] (zk B im lm) = zeRun 171 26 [some (.ref 170), some (.int l1), some (.int l2), some (.int l3), some (.int (im 171 (Int32.toNatClampNeg s1))), some (.int (l5 + 1))] [] (zk B im lm) := ze_go (ok := (zeInb s1 360 && true)) rfl 5 rfl (zeA2 c0 rfl)
def J_171_53 (K26 : Int32 → Int32 → Int32 → Int32 → Int32 → zI → zJ → zR) (l1 : Int32) (l2 : Int32) (l4 : Int32) (l5 : Int32) (s0 : Int32) (s1 : Int32) (im : zI) (lm : zJ) : zR :=
    zBd (m_170 l5 l1 im lm) fun v1 im1 lm1 =>
    zCk (if v1 = 0 then true else zeInb (((60 + (5 * l5)) : Int32) + 4) 360) <|
    zCk (if v1 = 0 then true else if (im1 171 (Int32.toNatClampNeg (((60 + (5 * l5)) : Int32) + 4))) = 1 then zeInb l5 60 else true) <|
    zCk (if v1 = 0 then true else if (im1 171 (Int32.toNatClampNeg (((60 + (5 * l5)) : Int32) + 4))) = 1 then if (im1 177 (Int32.toNatClampNeg l5)) = 0 then zeInb ((60 + (5 * l5)) : Int32) 360 else true else true) <|
    K26 l1 l2 (s0 + s1) (if v1 = 0 then l4 else if (im1 171 (Int32.toNatClampNeg (((60 + (5 * l5)) : Int32) + 4))) = 1 then if (im1 177 (Int32.toNatClampNeg l5)) = 0 then (im1 171 (Int32.toNatClampNeg ((60 + (5 * l5)) : Int32))) else l4 else l4) (l5 + 1) im1 lm1
theorem J_171_53_ok {B : zeB} (K26 : Int32 → Int32 → Int32 → Int32 → Int32 → zI → zJ → zR) (hK26 : ∀ (l1 : Int32) (l2 : Int32) (l3 : Int32) (l4 : Int32) (l5 : Int32)  (im : zI) (lm : zJ), zL B 1 (K26 l1 l2 l3 l4 l5 im lm) (zeRun 171 26 [some (.ref 170), some (.int l1), some (.int l2), some (.int l3), some (.int l4), some (.int l5)] [] (zk B im lm))) (l1 : Int32) (l2 : Int32) (l4 : Int32) (l5 : Int32) (s0 : Int32) (s1 : Int32) (o3 : Option Value) (im : zI) (lm : zJ) : zL B 1 (J_171_53 K26 l1 l2 l4 l5 s0 s1 im lm) (zeRun 171 53 [some (.ref 170), some (.int l1), some (.int l2), o3, some (.int l4), some (.int l5)] [.int s1, .int s0] (zk B im lm)) := by
  unfold J_171_53
  refine zL_bd (d_171_53 _ _ _ _ _ _ _) (m_170_ok _ _ _ _) fun v1 im1 lm1 => ?_
  refine zL_ifm (d_171_62 _ _ _ _ _ _) (fun h => ?_) (fun h => ?_)
  · repeat rw [if_pos h]
    refine zL_eq (d_171_104 _ _ _ _ _) ?_
    refine zL_ckt ?_
    refine zL_ckt ?_
    refine zL_ckt ?_
    exact hK26 _ _ _ _ _ _ _
  · repeat rw [if_neg h]
    refine zL_bdp (e := ((60 + (5 * l5)) : Int32)) (d_171_65 _ _ _ _ _) (m_45_ok _ _ _) ?_
    refine zL_ck fun c1 => ?_
    refine zL_ifm (d_171_74 _ _ _ _ _ _ c1) (fun h => ?_) (fun h => ?_)
    · repeat rw [if_pos h]
      refine zL_ck fun c2 => ?_
      refine zL_ifm (d_171_81 _ _ _ _ _ c2) (fun h => ?_) (fun h => ?_)
      · repeat rw [if_pos h]
        refine zL_bdp (e := ((60 + (5 * l5)) : Int32)) (d_171_91 _ _ _ _ _) (m_45_ok _ _ _) ?_
        refine zL_ck fun c3 => ?_
        refine zL_eq (d_171_100 _ _ _ _ _ _ c3) ?_
        exact hK26 _ _ _ _ _ _ _
      · repeat rw [if_neg h]
        refine zL_eq (d_171_104 _ _ _ _ _) ?_
        refine zL_ckt ?_
        exact hK26 _ _ _ _ _ _ _
    · repeat rw [if_neg h]
      refine zL_eq (d_171_104 _ _ _ _ _) ?_
      refine zL_ckt ?_
      refine zL_ckt ?_
      exact hK26 _ _ _ _ _ _ _
def F_171_26  : Nat → Int32 → Int32 → Int32 → Int32 → Int32 → zI → zJ → zR
  | 0, _, _, _, _, _, _, _ => none
  | n + 1, l1, l2, l3, l4, l5, im, lm =>
    if (im 171 5) ≤ l5 then
      some (if l2 = 0 then ((100 * ((l1 / 5) + 1)) : Int32) else if l2 = 1 then (((im 171 11) >>> (l1 &&& 31)) &&& 1) else if l2 = 2 then (((im 171 10) >>> (l1 &&& 31)) &&& 1) else if l2 = 3 then l3 else if l2 = 4 then l4 else (-10000002), im, lm)
    else
      zBd (m_170 l5 l1 im lm) fun v2 im2 lm2 =>
      J_171_53 (F_171_26  n)  l1 l2 l4 l5 l3 (if v2 = 0 then 0 else 1) im2 lm2
theorem F_171_26_ok {B : zeB} : ∀ (n : Nat) (l1 : Int32) (l2 : Int32) (l3 : Int32) (l4 : Int32) (l5 : Int32)  (im : zI) (lm : zJ), zL B 1 (F_171_26  n l1 l2 l3 l4 l5 im lm) (zeRun 171 26 [some (.ref 170), some (.int l1), some (.int l2), some (.int l3), some (.int l4), some (.int l5)] [] (zk B im lm)) := by
  intro n
  induction n with
  | zero => intros; exact zL_none
  | succ n ih =>
    intro l1 l2 l3 l4 l5 im lm
    unfold F_171_26
    refine zL_if (d_171_26 _ _ _ _ _) (fun h => ?_) (fun h => ?_)
    · skip
      refine zL_eq (d_171_114 _ _ _ _ _) ?_
      refine zL_swm (fun h => ?_) (fun h => ?_)
      · repeat rw [if_pos h]
        refine zL_bdp (e := ((100 * ((l1 / 5) + 1)) : Int32)) (d_171_148 _ _ _ _ _ _) (m_49_ok _ _ _) ?_
        exact zL_ret (d_171_152 _ _ _ _ _ _ _)
      repeat rw [if_neg h]
      refine zL_swm (fun h => ?_) (fun h => ?_)
      · repeat rw [if_pos h]
        exact zL_ret (d_171_153 _ _ _ _ _)
      repeat rw [if_neg h]
      refine zL_swm (fun h => ?_) (fun h => ?_)
      · repeat rw [if_pos h]
        exact zL_ret (d_171_165 _ _ _ _ _)
      repeat rw [if_neg h]
      refine zL_swm (fun h => ?_) (fun h => ?_)
      · repeat rw [if_pos h]
        exact zL_ret (d_171_177 _ _ _ _ _ _)
      repeat rw [if_neg h]
      refine zL_swm (fun h => ?_) (fun h => ?_)
      · repeat rw [if_pos h]
        exact zL_ret (d_171_179 _ _ _ _ _ _)
      repeat rw [if_neg h]
      refine zL_swd ?_
      exact zL_ret (d_171_182 _ _ _ _ _ _)
    · skip
      refine zL_bd (d_171_37 _ _ _ _ _) (m_170_ok _ _ _ _) fun v2 im2 lm2 => ?_
      refine zL_ifm (d_171_45 _ _ _ _ _ _ _) (fun h => ?_) (fun h => ?_)
      · repeat rw [if_pos h]
        refine zL_eq (d_171_52 _ _ _ _ _ _) ?_
        exact J_171_53_ok _ ih  _ _ _ _ _ _ _ _ _
      · repeat rw [if_neg h]
        refine zL_eq (d_171_48 _ _ _ _ _ _) ?_
        exact J_171_53_ok _ ih  _ _ _ _ _ _ _ _ _
def m_171 (l1 : Int32) (l2 : Int32) (im : zI) (lm : zJ) : zR :=
    if (if l1 < 0 then 0 else if 24 < l1 then 0 else 1 : Int32) = 0 then
      some ((-10000001), im, lm)
    else
      zBd (m_47  im lm) fun _ im2 lm2 =>
      F_171_26  2000 l1 l2 0 (-10000005) 0 im2 lm2
theorem m_171_ok {B : zeB} (l1 : Int32) (l2 : Int32) (im : zI) (lm : zJ) : zL B 1 (m_171 l1 l2 im lm) (zeRun 171 0 [some (.ref 170), some (.int l1), some (.int l2), none, none, none] [] (zk B im lm)) := by
  unfold m_171
  refine zL_bdp (e := (if l1 < 0 then 0 else if 24 < l1 then 0 else 1 : Int32)) (d_171_0 _ _ _ _ _) (m_32_ok _ _ _ _ _) ?_
  refine zL_if (d_171_7 _ _ _ _ _ _) (fun h => ?_) (fun h => ?_)
  · skip
    exact zL_ret (d_171_10 _ _ _ _ _ _)
  · skip
    refine zL_bdv (d_171_13 _ _ _ _ _) (m_47_ok _ _) fun _ im2 lm2 => ?_
    refine zL_eq (d_171_17 _ _ _ _ _) ?_
    exact F_171_26_ok  _ _ _ _ _ _ _ _
/-! X7_entry -/
theorem d_172_0 {B : zeB} {im : Nat → Nat → Int32} {lm : Nat → Nat → Int64} (l1 : Int32) (l2 : Int32)  : zeRun 172 0 [some (.ref 16), some (.int l1), some (.int l2)] [] (zk B im lm) = zeBh 172 5 [some (.ref 16), some (.int l1), some (.int l2)] [] (zeRun 118 0 [some (.ref 16), some (.int l1)] [] (zk B im lm)) := ze_call (ok := true) rfl 3 rfl rfl rfl
theorem d_172_5 {B : zeB} {im : Nat → Nat → Int32} {lm : Nat → Nat → Int64} (l1 : Int32) (l2 : Int32) (s0 : Int32)  : zeRun 172 5 [some (.ref 16), some (.int l1), some (.int l2)] [.int s0] (zk B im lm) = if s0 = 0 then zeRun 172 8 [some (.ref 16), some (.int l1), some (.int l2)] [] (zk B im lm) else zeRun 172 11 [some (.ref 16), some (.int l1), some (.int l2)] [] (zk B im lm) := ze_if (ok := true) rfl 1 rfl rfl
theorem d_172_8 {B : zeB} {im : Nat → Nat → Int32} {lm : Nat → Nat → Int64} (o0 : Option Value) (o1 : Option Value) (o2 : Option Value)  : zeRun 172 8 [o0, o1, o2] [] (zk B im lm) = some (some (.int (-10000001)), (zk B im lm)) := ze_ret (ok := true) rfl 2 rfl rfl
theorem d_172_11 {B : zeB} {im : Nat → Nat → Int32} {lm : Nat → Nat → Int64} (l1 : Int32) (l2 : Int32)  : zeRun 172 11 [some (.ref 16), some (.int l1), some (.int l2)] [] (zk B im lm) = zeRun 172 (zeSw l2 163 [(0, 60), (1, 73), (2, 86), (3, 99), (4, 112), (5, 122), (6, 135), (7, 145)]) [some (.ref 16), some (.int l1), some (.int l2)] [] (zk B im lm) := ze_go (ok := true) rfl 2 rfl rfl
theorem d_172_60 {B : zeB} {im : Nat → Nat → Int32} {lm : Nat → Nat → Int64} (l1 : Int32) (o2 : Option Value) (c0 : zeInb l1 60 = true) : zeRun 172 60 [some (.ref 16), some (.int l1), o2] [] (zk B im lm) = some (some (.int (im 27 (Int32.toNatClampNeg l1))), (zk B im lm)) := ze_ret (ok := (zeInb l1 60 && true)) rfl 7 rfl (zeA2 c0 rfl)
theorem d_172_73 {B : zeB} {im : Nat → Nat → Int32} {lm : Nat → Nat → Int64} (l1 : Int32) (o2 : Option Value) (c0 : zeInb l1 60 = true) : zeRun 172 73 [some (.ref 16), some (.int l1), o2] [] (zk B im lm) = some (some (.int (im 28 (Int32.toNatClampNeg l1))), (zk B im lm)) := ze_ret (ok := (zeInb l1 60 && true)) rfl 7 rfl (zeA2 c0 rfl)
theorem d_172_86 {B : zeB} {im : Nat → Nat → Int32} {lm : Nat → Nat → Int64} (l1 : Int32) (o2 : Option Value) (c0 : zeInb l1 60 = true) : zeRun 172 86 [some (.ref 16), some (.int l1), o2] [] (zk B im lm) = some (some (.int (im 29 (Int32.toNatClampNeg l1))), (zk B im lm)) := ze_ret (ok := (zeInb l1 60 && true)) rfl 7 rfl (zeA2 c0 rfl)
theorem d_172_99 {B : zeB} {im : Nat → Nat → Int32} {lm : Nat → Nat → Int64} (l1 : Int32) (o2 : Option Value) (c0 : zeInb l1 60 = true) : zeRun 172 99 [some (.ref 16), some (.int l1), o2] [] (zk B im lm) = some (some (.int (im 30 (Int32.toNatClampNeg l1))), (zk B im lm)) := ze_ret (ok := (zeInb l1 60 && true)) rfl 7 rfl (zeA2 c0 rfl)
theorem d_172_112 {B : zeB} {im : Nat → Nat → Int32} {lm : Nat → Nat → Int64} (l1 : Int32) (o2 : Option Value) (c0 : zeInb l1 60 = true) : zeRun 172 112 [some (.ref 16), some (.int l1), o2] [] (zk B im lm) = some (some (.int (im 38 (Int32.toNatClampNeg l1))), (zk B im lm)) := ze_ret (ok := (zeInb l1 60 && true)) rfl 6 rfl (zeA2 c0 rfl)
theorem d_172_122 {B : zeB} {im : Nat → Nat → Int32} {lm : Nat → Nat → Int64} (l1 : Int32) (o2 : Option Value) (c0 : zeInb l1 60 = true) : zeRun 172 122 [some (.ref 16), some (.int l1), o2] [] (zk B im lm) = some (some (.int (im 31 (Int32.toNatClampNeg l1))), (zk B im lm)) := ze_ret (ok := (zeInb l1 60 && true)) rfl 7 rfl (zeA2 c0 rfl)
theorem d_172_135 {B : zeB} {im : Nat → Nat → Int32} {lm : Nat → Nat → Int64} (l1 : Int32) (o2 : Option Value) (c0 : zeInb l1 60 = true) : zeRun 172 135 [some (.ref 16), some (.int l1), o2] [] (zk B im lm) = some (some (.int (im 39 (Int32.toNatClampNeg l1))), (zk B im lm)) := ze_ret (ok := (zeInb l1 60 && true)) rfl 6 rfl (zeA2 c0 rfl)
theorem d_172_145 {B : zeB} {im : Nat → Nat → Int32} {lm : Nat → Nat → Int64} (l1 : Int32) (o2 : Option Value) (c0 : zeInb l1 60 = true) : zeRun 172 145 [some (.ref 16), some (.int l1), o2] [] (zk B im lm) = if (im 40 (Int32.toNatClampNeg l1)) = 0 then zeRun 172 161 [some (.ref 16), some (.int l1), o2] [] (zk B im lm) else zeRun 172 157 [some (.ref 16), some (.int l1), o2] [] (zk B im lm) := ze_if (ok := (zeInb l1 60 && true)) rfl 6 rfl (zeA2 c0 rfl)
theorem d_172_161 {B : zeB} {im : Nat → Nat → Int32} {lm : Nat → Nat → Int64} (o0 : Option Value) (o1 : Option Value) (o2 : Option Value)  : zeRun 172 161 [o0, o1, o2] [] (zk B im lm) = some (some (.int 0), (zk B im lm)) := ze_ret (ok := true) rfl 2 rfl rfl
theorem d_172_157 {B : zeB} {im : Nat → Nat → Int32} {lm : Nat → Nat → Int64} (o0 : Option Value) (o1 : Option Value) (o2 : Option Value)  : zeRun 172 157 [o0, o1, o2] [] (zk B im lm) = some (some (.int 1), (zk B im lm)) := ze_ret (ok := true) rfl 3 rfl rfl
theorem d_172_163 {B : zeB} {im : Nat → Nat → Int32} {lm : Nat → Nat → Int64} (o0 : Option Value) (o1 : Option Value) (o2 : Option Value)  : zeRun 172 163 [o0, o1, o2] [] (zk B im lm) = some (some (.int (-10000002)), (zk B im lm)) := ze_ret (ok := true) rfl 2 rfl rfl
def m_172 (l1 : Int32) (l2 : Int32) (im : zI) (lm : zJ) : zR :=
    zCk (if (if l1 < 0 then 0 else if (im 26 0) ≤ l1 then 0 else 1 : Int32) = 0 then true else if l2 = 0 then zeInb l1 60 else if l2 = 1 then zeInb l1 60 else if l2 = 2 then zeInb l1 60 else if l2 = 3 then zeInb l1 60 else if l2 = 4 then zeInb l1 60 else if l2 = 5 then zeInb l1 60 else if l2 = 6 then zeInb l1 60 else if l2 = 7 then zeInb l1 60 else true) <|
    some (if (if l1 < 0 then 0 else if (im 26 0) ≤ l1 then 0 else 1 : Int32) = 0 then (-10000001) else if l2 = 0 then (im 27 (Int32.toNatClampNeg l1)) else if l2 = 1 then (im 28 (Int32.toNatClampNeg l1)) else if l2 = 2 then (im 29 (Int32.toNatClampNeg l1)) else if l2 = 3 then (im 30 (Int32.toNatClampNeg l1)) else if l2 = 4 then (im 38 (Int32.toNatClampNeg l1)) else if l2 = 5 then (im 31 (Int32.toNatClampNeg l1)) else if l2 = 6 then (im 39 (Int32.toNatClampNeg l1)) else if l2 = 7 then if (im 40 (Int32.toNatClampNeg l1)) = 0 then 0 else 1 else (-10000002), im, lm)
theorem m_172_ok {B : zeB} (l1 : Int32) (l2 : Int32) (im : zI) (lm : zJ) : zL B 1 (m_172 l1 l2 im lm) (zeRun 172 0 [some (.ref 16), some (.int l1), some (.int l2)] [] (zk B im lm)) := by
  unfold m_172
  refine zL_bdp (e := (if l1 < 0 then 0 else if (im 26 0) ≤ l1 then 0 else 1 : Int32)) (d_172_0 _ _) (m_118_ok _ _ _) ?_
  refine zL_ifm (d_172_5 _ _ _) (fun h => ?_) (fun h => ?_)
  · repeat rw [if_pos h]
    refine zL_ckt ?_
    exact zL_ret (d_172_8 _ _ _)
  · repeat rw [if_neg h]
    refine zL_eq (d_172_11 _ _) ?_
    refine zL_swm (fun h => ?_) (fun h => ?_)
    · repeat rw [if_pos h]
      refine zL_ck fun c1 => ?_
      exact zL_ret (d_172_60 _ _ c1)
    repeat rw [if_neg h]
    refine zL_swm (fun h => ?_) (fun h => ?_)
    · repeat rw [if_pos h]
      refine zL_ck fun c2 => ?_
      exact zL_ret (d_172_73 _ _ c2)
    repeat rw [if_neg h]
    refine zL_swm (fun h => ?_) (fun h => ?_)
    · repeat rw [if_pos h]
      refine zL_ck fun c3 => ?_
      exact zL_ret (d_172_86 _ _ c3)
    repeat rw [if_neg h]
    refine zL_swm (fun h => ?_) (fun h => ?_)
    · repeat rw [if_pos h]
      refine zL_ck fun c4 => ?_
      exact zL_ret (d_172_99 _ _ c4)
    repeat rw [if_neg h]
    refine zL_swm (fun h => ?_) (fun h => ?_)
    · repeat rw [if_pos h]
      refine zL_ck fun c5 => ?_
      exact zL_ret (d_172_112 _ _ c5)
    repeat rw [if_neg h]
    refine zL_swm (fun h => ?_) (fun h => ?_)
    · repeat rw [if_pos h]
      refine zL_ck fun c6 => ?_
      exact zL_ret (d_172_122 _ _ c6)
    repeat rw [if_neg h]
    refine zL_swm (fun h => ?_) (fun h => ?_)
    · repeat rw [if_pos h]
      refine zL_ck fun c7 => ?_
      exact zL_ret (d_172_135 _ _ c7)
    repeat rw [if_neg h]
    refine zL_swm (fun h => ?_) (fun h => ?_)
    · repeat rw [if_pos h]
      refine zL_ck fun c8 => ?_
      refine zL_ifm (d_172_145 _ _ c8) (fun h => ?_) (fun h => ?_)
      · repeat rw [if_pos h]
        exact zL_ret (d_172_161 _ _ _)
      · repeat rw [if_neg h]
        exact zL_ret (d_172_157 _ _ _)
    repeat rw [if_neg h]
    refine zL_swd ?_
    refine zL_ckt ?_
    exact zL_ret (d_172_163 _ _ _)
