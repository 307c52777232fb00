/-! pure: J0_checkIndex_df160, J1_charAt_3b067_5, J1_charAt_3b067_7, J1_charAt_3b067_3, J0_charAt_5068e_4, J0_charAt_5068e_6, J0_charAt_5068e_2, X9_write, X9_writeWords_4, X9_writeWords_6, X9_writeWords_2, X9_writeNumber, X7_writeMessage, X7_messageAt, X8_write, X8_writeNumber, X8_messageAt -/
/-! J0_checkIndex_df160 -/
theorem d_205_0 {B : zeB} {im : Nat → Nat → Int32} {lm : Nat → Nat → Int64} (l0 : Int32) (l1 : Int32)  : zeRun 205 0 [some (.int l0), some (.int l1)] [] (zk B im lm) = zeBh 205 8 [some (.int l0), some (.int l1)] [] (zeRun 204 0 [some (.int l0), some (.int l1), some (.ref 8)] [] (zk B im lm)) := ze_call (ok := true) rfl 4 rfl rfl rfl
theorem d_205_8 {B : zeB} {im : Nat → Nat → Int32} {lm : Nat → Nat → Int64} (o0 : Option Value) (o1 : Option Value) (s0 : Int32)  : zeRun 205 8 [o0, o1] [.int s0] (zk B im lm) = some (none, (zk B im lm)) := ze_ret (ok := true) rfl 2 rfl rfl
def m_205 (l0 : Int32) (l1 : Int32) (im : zI) (lm : zJ) : zR :=
    zBd (m_204 l0 l1 im lm) fun v1 im1 lm1 =>
    some (0, im1, lm1)
theorem m_205_ok {B : zeB} (l0 : Int32) (l1 : Int32) (im : zI) (lm : zJ) : zL B 0 (m_205 l0 l1 im lm) (zeRun 205 0 [some (.int l0), some (.int l1)] [] (zk B im lm)) := by
  unfold m_205
  refine zL_bd (d_205_0 _ _) (m_204_ok _ _ _ _) fun v1 im1 lm1 => ?_
  exact zL_retv (d_205_8 _ _ _)
/-! J1_charAt_3b067_5 -/
theorem d_181_5_0 {B : zeB} {im : Nat → Nat → Int32} {lm : Nat → Nat → Int64} (l1 : Int32)  : zeRun 181 0 [some (.ref 5), some (.int l1)] [] (zk B im lm) = zeBh 181 6 [some (.ref 5), some (.int l1)] [] (zeRun 205 0 [some (.int l1), some (.int 6)] [] (zk B im lm)) := ze_call (ok := true) rfl 4 rfl rfl rfl
theorem d_181_5_6 {B : zeB} {im : Nat → Nat → Int32} {lm : Nat → Nat → Int64} (l1 : Int32) (c0 : zeInb l1 6 = true) (c1 : zeNok FieldType.char (zfi2c ((im 5 (Int32.toNatClampNeg l1)) &&& 255)) = true) : zeRun 181 6 [some (.ref 5), some (.int l1)] [] (zk B im lm) = some (some (.int (zfi2c ((im 5 (Int32.toNatClampNeg l1)) &&& 255))), (zk B im lm)) := ze_ret (ok := (zeNok FieldType.char (zfi2c ((im 5 (Int32.toNatClampNeg l1)) &&& 255)) && (zeInb l1 6 && true))) rfl 7 rfl (zeA2 c1 (zeA2 c0 rfl))
def m_181_5 (l1 : Int32) (im : zI) (lm : zJ) : zR :=
    zBd (m_205 l1 6 im lm) fun _ im1 lm1 =>
    zCk (zeInb l1 6) <|
    zCk (zeNok FieldType.char (zfi2c ((im1 5 (Int32.toNatClampNeg l1)) &&& 255))) <|
    some ((zfi2c ((im1 5 (Int32.toNatClampNeg l1)) &&& 255)), im1, lm1)
theorem m_181_5_ok {B : zeB} (l1 : Int32) (im : zI) (lm : zJ) : zL B 1 (m_181_5 l1 im lm) (zeRun 181 0 [some (.ref 5), some (.int l1)] [] (zk B im lm)) := by
  unfold m_181_5
  refine zL_bdv (d_181_5_0 _) (m_205_ok _ _ _ _) fun _ im1 lm1 => ?_
  refine zL_ck fun c1 => ?_
  refine zL_ck fun c2 => ?_
  exact zL_ret (d_181_5_6 _ c1 c2)
/-! J1_charAt_3b067_7 -/
theorem d_181_7_0 {B : zeB} {im : Nat → Nat → Int32} {lm : Nat → Nat → Int64} (l1 : Int32)  : zeRun 181 0 [some (.ref 7), some (.int l1)] [] (zk B im lm) = zeBh 181 6 [some (.ref 7), some (.int l1)] [] (zeRun 205 0 [some (.int l1), some (.int 3)] [] (zk B im lm)) := ze_call (ok := true) rfl 4 rfl rfl rfl
theorem d_181_7_6 {B : zeB} {im : Nat → Nat → Int32} {lm : Nat → Nat → Int64} (l1 : Int32) (c0 : zeInb l1 3 = true) (c1 : zeNok FieldType.char (zfi2c ((im 7 (Int32.toNatClampNeg l1)) &&& 255)) = true) : zeRun 181 6 [some (.ref 7), some (.int l1)] [] (zk B im lm) = some (some (.int (zfi2c ((im 7 (Int32.toNatClampNeg l1)) &&& 255))), (zk B im lm)) := ze_ret (ok := (zeNok FieldType.char (zfi2c ((im 7 (Int32.toNatClampNeg l1)) &&& 255)) && (zeInb l1 3 && true))) rfl 7 rfl (zeA2 c1 (zeA2 c0 rfl))
def m_181_7 (l1 : Int32) (im : zI) (lm : zJ) : zR :=
    zBd (m_205 l1 3 im lm) fun _ im1 lm1 =>
    zCk (zeInb l1 3) <|
    zCk (zeNok FieldType.char (zfi2c ((im1 7 (Int32.toNatClampNeg l1)) &&& 255))) <|
    some ((zfi2c ((im1 7 (Int32.toNatClampNeg l1)) &&& 255)), im1, lm1)
theorem m_181_7_ok {B : zeB} (l1 : Int32) (im : zI) (lm : zJ) : zL B 1 (m_181_7 l1 im lm) (zeRun 181 0 [some (.ref 7), some (.int l1)] [] (zk B im lm)) := by
  unfold m_181_7
  refine zL_bdv (d_181_7_0 _) (m_205_ok _ _ _ _) fun _ im1 lm1 => ?_
  refine zL_ck fun c1 => ?_
  refine zL_ck fun c2 => ?_
  exact zL_ret (d_181_7_6 _ c1 c2)
/-! J1_charAt_3b067_3 -/
theorem d_181_3_0 {B : zeB} {im : Nat → Nat → Int32} {lm : Nat → Nat → Int64} (l1 : Int32)  : zeRun 181 0 [some (.ref 3), some (.int l1)] [] (zk B im lm) = zeBh 181 6 [some (.ref 3), some (.int l1)] [] (zeRun 205 0 [some (.int l1), some (.int 1)] [] (zk B im lm)) := ze_call (ok := true) rfl 4 rfl rfl rfl
theorem d_181_3_6 {B : zeB} {im : Nat → Nat → Int32} {lm : Nat → Nat → Int64} (l1 : Int32) (c0 : zeInb l1 1 = true) (c1 : zeNok FieldType.char (zfi2c ((im 3 (Int32.toNatClampNeg l1)) &&& 255)) = true) : zeRun 181 6 [some (.ref 3), some (.int l1)] [] (zk B im lm) = some (some (.int (zfi2c ((im 3 (Int32.toNatClampNeg l1)) &&& 255))), (zk B im lm)) := ze_ret (ok := (zeNok FieldType.char (zfi2c ((im 3 (Int32.toNatClampNeg l1)) &&& 255)) && (zeInb l1 1 && true))) rfl 7 rfl (zeA2 c1 (zeA2 c0 rfl))
def m_181_3 (l1 : Int32) (im : zI) (lm : zJ) : zR :=
    zBd (m_205 l1 1 im lm) fun _ im1 lm1 =>
    zCk (zeInb l1 1) <|
    zCk (zeNok FieldType.char (zfi2c ((im1 3 (Int32.toNatClampNeg l1)) &&& 255))) <|
    some ((zfi2c ((im1 3 (Int32.toNatClampNeg l1)) &&& 255)), im1, lm1)
theorem m_181_3_ok {B : zeB} (l1 : Int32) (im : zI) (lm : zJ) : zL B 1 (m_181_3 l1 im lm) (zeRun 181 0 [some (.ref 3), some (.int l1)] [] (zk B im lm)) := by
  unfold m_181_3
  refine zL_bdv (d_181_3_0 _) (m_205_ok _ _ _ _) fun _ im1 lm1 => ?_
  refine zL_ck fun c1 => ?_
  refine zL_ck fun c2 => ?_
  exact zL_ret (d_181_3_6 _ c1 c2)
/-! J0_charAt_5068e_4 -/
theorem d_182_4_0 {B : zeB} {im : Nat → Nat → Int32} {lm : Nat → Nat → Int64} (l1 : Int32)  : zeRun 182 0 [some (.ref 4), some (.int l1)] [] (zk B im lm) = zeBh 182 4 [some (.ref 4), some (.int l1)] [] (zeRun 180 0 [some (.ref 4)] [] (zk B im lm)) := ze_call (ok := true) rfl 2 rfl rfl rfl
theorem d_182_4_4 {B : zeB} {im : Nat → Nat → Int32} {lm : Nat → Nat → Int64} (l1 : Int32) (s0 : Int32)  : zeRun 182 4 [some (.ref 4), some (.int l1)] [.int s0] (zk B im lm) = if s0 = 0 then zeRun 182 16 [some (.ref 4), some (.int l1)] [] (zk B im lm) else zeRun 182 7 [some (.ref 4), some (.int l1)] [] (zk B im lm) := ze_if (ok := true) rfl 1 rfl rfl
theorem d_182_4_7 {B : zeB} {im : Nat → Nat → Int32} {lm : Nat → Nat → Int64} (l1 : Int32)  : zeRun 182 7 [some (.ref 4), some (.int l1)] [] (zk B im lm) = zeBh 182 15 [some (.ref 4), some (.int l1)] [] (zeRun 181 0 [some (.ref 5), some (.int l1)] [] (zk B im lm)) := ze_call (ok := true) rfl 4 rfl rfl rfl
theorem d_182_4_15 {B : zeB} {im : Nat → Nat → Int32} {lm : Nat → Nat → Int64} (o0 : Option Value) (o1 : Option Value) (s0 : Int32) (c0 : zeNok FieldType.char s0 = true) : zeRun 182 15 [o0, o1] [.int s0] (zk B im lm) = some (some (.int s0), (zk B im lm)) := ze_ret (ok := (zeNok FieldType.char s0 && true)) rfl 1 rfl (zeA2 c0 rfl)
def m_182_4 (l1 : Int32) (im : zI) (lm : zJ) : zR :=
    if (if (1 : Int32) = 0 then 0 else if (im 4 1) = 0 then 1 else 0 : Int32) = 0 then
      none
    else
      zBd (m_181_5 l1 im lm) fun v2 im2 lm2 =>
      zCk (zeNok FieldType.char v2) <|
      some (v2, im2, lm2)
theorem m_182_4_ok {B : zeB} (l1 : Int32) (im : zI) (lm : zJ) : zL B 1 (m_182_4 l1 im lm) (zeRun 182 0 [some (.ref 4), some (.int l1)] [] (zk B im lm)) := by
  unfold m_182_4
  refine zL_bdp (e := (if (1 : Int32) = 0 then 0 else if (im 4 1) = 0 then 1 else 0 : Int32)) (d_182_4_0 _) (m_180_4_ok _ _) ?_
  refine zL_if (d_182_4_4 _ _) (fun h => ?_) (fun h => ?_)
  · skip
    exact zL_none
  · skip
    refine zL_bd (d_182_4_7 _) (m_181_5_ok _ _ _) fun v2 im2 lm2 => ?_
    refine zL_ck fun c1 => ?_
    exact zL_ret (d_182_4_15 _ _ _ c1)
/-! J0_charAt_5068e_6 -/
theorem d_182_6_0 {B : zeB} {im : Nat → Nat → Int32} {lm : Nat → Nat → Int64} (l1 : Int32)  : zeRun 182 0 [some (.ref 6), some (.int l1)] [] (zk B im lm) = zeBh 182 4 [some (.ref 6), some (.int l1)] [] (zeRun 180 0 [some (.ref 6)] [] (zk B im lm)) := ze_call (ok := true) rfl 2 rfl rfl rfl
theorem d_182_6_4 {B : zeB} {im : Nat → Nat → Int32} {lm : Nat → Nat → Int64} (l1 : Int32) (s0 : Int32)  : zeRun 182 4 [some (.ref 6), some (.int l1)] [.int s0] (zk B im lm) = if s0 = 0 then zeRun 182 16 [some (.ref 6), some (.int l1)] [] (zk B im lm) else zeRun 182 7 [some (.ref 6), some (.int l1)] [] (zk B im lm) := ze_if (ok := true) rfl 1 rfl rfl
theorem d_182_6_7 {B : zeB} {im : Nat → Nat → Int32} {lm : Nat → Nat → Int64} (l1 : Int32)  : zeRun 182 7 [some (.ref 6), some (.int l1)] [] (zk B im lm) = zeBh 182 15 [some (.ref 6), some (.int l1)] [] (zeRun 181 0 [some (.ref 7), some (.int l1)] [] (zk B im lm)) := ze_call (ok := true) rfl 4 rfl rfl rfl
theorem d_182_6_15 {B : zeB} {im : Nat → Nat → Int32} {lm : Nat → Nat → Int64} (o0 : Option Value) (o1 : Option Value) (s0 : Int32) (c0 : zeNok FieldType.char s0 = true) : zeRun 182 15 [o0, o1] [.int s0] (zk B im lm) = some (some (.int s0), (zk B im lm)) := ze_ret (ok := (zeNok FieldType.char s0 && true)) rfl 1 rfl (zeA2 c0 rfl)
def m_182_6 (l1 : Int32) (im : zI) (lm : zJ) : zR :=
    if (if (1 : Int32) = 0 then 0 else if (im 6 1) = 0 then 1 else 0 : Int32) = 0 then
      none
    else
      zBd (m_181_7 l1 im lm) fun v2 im2 lm2 =>
      zCk (zeNok FieldType.char v2) <|
      some (v2, im2, lm2)
theorem m_182_6_ok {B : zeB} (l1 : Int32) (im : zI) (lm : zJ) : zL B 1 (m_182_6 l1 im lm) (zeRun 182 0 [some (.ref 6), some (.int l1)] [] (zk B im lm)) := by
  unfold m_182_6
  refine zL_bdp (e := (if (1 : Int32) = 0 then 0 else if (im 6 1) = 0 then 1 else 0 : Int32)) (d_182_6_0 _) (m_180_6_ok _ _) ?_
  refine zL_if (d_182_6_4 _ _) (fun h => ?_) (fun h => ?_)
  · skip
    exact zL_none
  · skip
    refine zL_bd (d_182_6_7 _) (m_181_7_ok _ _ _) fun v2 im2 lm2 => ?_
    refine zL_ck fun c1 => ?_
    exact zL_ret (d_182_6_15 _ _ _ c1)
/-! J0_charAt_5068e_2 -/
theorem d_182_2_0 {B : zeB} {im : Nat → Nat → Int32} {lm : Nat → Nat → Int64} (l1 : Int32)  : zeRun 182 0 [some (.ref 2), some (.int l1)] [] (zk B im lm) = zeBh 182 4 [some (.ref 2), some (.int l1)] [] (zeRun 180 0 [some (.ref 2)] [] (zk B im lm)) := ze_call (ok := true) rfl 2 rfl rfl rfl
theorem d_182_2_4 {B : zeB} {im : Nat → Nat → Int32} {lm : Nat → Nat → Int64} (l1 : Int32) (s0 : Int32)  : zeRun 182 4 [some (.ref 2), some (.int l1)] [.int s0] (zk B im lm) = if s0 = 0 then zeRun 182 16 [some (.ref 2), some (.int l1)] [] (zk B im lm) else zeRun 182 7 [some (.ref 2), some (.int l1)] [] (zk B im lm) := ze_if (ok := true) rfl 1 rfl rfl
theorem d_182_2_7 {B : zeB} {im : Nat → Nat → Int32} {lm : Nat → Nat → Int64} (l1 : Int32)  : zeRun 182 7 [some (.ref 2), some (.int l1)] [] (zk B im lm) = zeBh 182 15 [some (.ref 2), some (.int l1)] [] (zeRun 181 0 [some (.ref 3), some (.int l1)] [] (zk B im lm)) := ze_call (ok := true) rfl 4 rfl rfl rfl
theorem d_182_2_15 {B : zeB} {im : Nat → Nat → Int32} {lm : Nat → Nat → Int64} (o0 : Option Value) (o1 : Option Value) (s0 : Int32) (c0 : zeNok FieldType.char s0 = true) : zeRun 182 15 [o0, o1] [.int s0] (zk B im lm) = some (some (.int s0), (zk B im lm)) := ze_ret (ok := (zeNok FieldType.char s0 && true)) rfl 1 rfl (zeA2 c0 rfl)
def m_182_2 (l1 : Int32) (im : zI) (lm : zJ) : zR :=
    if (if (1 : Int32) = 0 then 0 else if (im 2 1) = 0 then 1 else 0 : Int32) = 0 then
      none
    else
      zBd (m_181_3 l1 im lm) fun v2 im2 lm2 =>
      zCk (zeNok FieldType.char v2) <|
      some (v2, im2, lm2)
theorem m_182_2_ok {B : zeB} (l1 : Int32) (im : zI) (lm : zJ) : zL B 1 (m_182_2 l1 im lm) (zeRun 182 0 [some (.ref 2), some (.int l1)] [] (zk B im lm)) := by
  unfold m_182_2
  refine zL_bdp (e := (if (1 : Int32) = 0 then 0 else if (im 2 1) = 0 then 1 else 0 : Int32)) (d_182_2_0 _) (m_180_2_ok _ _) ?_
  refine zL_if (d_182_2_4 _ _) (fun h => ?_) (fun h => ?_)
  · skip
    exact zL_none
  · skip
    refine zL_bd (d_182_2_7 _) (m_181_3_ok _ _ _) fun v2 im2 lm2 => ?_
    refine zL_ck fun c1 => ?_
    exact zL_ret (d_182_2_15 _ _ _ c1)
/-! X9_write -/
theorem d_183_0 {B : zeB} {im : Nat → Nat → Int32} {lm : Nat → Nat → Int64} (l1 : Int32)  : zeRun 183 0 [some (.ref 168), some (.int l1)] [] (zk B im lm) = if 128 ≤ (im 168 0) then zeRun 183 30 [some (.ref 168), some (.int l1)] [] (zk B im lm) else zeRun 183 10 [some (.ref 168), some (.int l1)] [] (zk B im lm) := ze_if (ok := true) rfl 4 rfl rfl
theorem d_183_30 {B : zeB} {im : Nat → Nat → Int32} {lm : Nat → Nat → Int64} (o0 : Option Value) (o1 : Option Value)  : zeRun 183 30 [o0, o1] [] (zk B im lm) = some (none, (zk B im lm)) := ze_ret (ok := true) rfl 1 rfl rfl
theorem d_183_10 {B : zeB} {im : Nat → Nat → Int32} {lm : Nat → Nat → Int64} (l1 : Int32) (c0 : zeInb (im 168 0) 128 = true) : zeRun 183 10 [some (.ref 168), some (.int l1)] [] (zk B im lm) = some (none, (zk B (zeU2 (zeU2 im 169 (Int32.toNatClampNeg (im 168 0)) (vp_nar .char l1)) 168 0 ((im 168 0) + 1)) lm)) := ze_ret (ok := (zeInb (im 168 0) 128 && true)) rfl 13 rfl (zeA2 c0 rfl)
def m_183 (l1 : Int32) (im : zI) (lm : zJ) : zR :=
    zCk (if 128 ≤ (im 168 0) then true else zeInb (im 168 0) 128) <|
    some (0, if 128 ≤ (im 168 0) then im else (zeU2 (zeU2 im 169 (Int32.toNatClampNeg (im 168 0)) (vp_nar .char l1)) 168 0 ((im 168 0) + 1)), lm)
theorem m_183_ok {B : zeB} (l1 : Int32) (im : zI) (lm : zJ) : zL B 0 (m_183 l1 im lm) (zeRun 183 0 [some (.ref 168), some (.int l1)] [] (zk B im lm)) := by
  unfold m_183
  refine zL_ifm (d_183_0 _) (fun h => ?_) (fun h => ?_)
  · repeat rw [if_pos h]
    refine zL_ckt ?_
    exact zL_retv (d_183_30 _ _)
  · repeat rw [if_neg h]
    refine zL_ck fun c1 => ?_
    exact zL_retv (d_183_10 _ c1)
/-! X9_writeWords_4 -/
theorem d_184_4_0 {B : zeB} {im : Nat → Nat → Int32} {lm : Nat → Nat → Int64} (o2 : Option Value)  : zeRun 184 0 [some (.ref 168), some (.ref 4), o2] [] (zk B im lm) = zeRun 184 2 [some (.ref 168), some (.ref 4), some (.int 0)] [] (zk B im lm) := ze_go (ok := true) rfl 2 rfl rfl
theorem d_184_4_2 {B : zeB} {im : Nat → Nat → Int32} {lm : Nat → Nat → Int64} (l2 : Int32)  : zeRun 184 2 [some (.ref 168), some (.ref 4), some (.int l2)] [] (zk B im lm) = zeBh 184 7 [some (.ref 168), some (.ref 4), some (.int l2)] [.int l2] (zeRun 188 0 [some (.ref 4)] [] (zk B im lm)) := ze_call (ok := true) rfl 3 rfl rfl rfl
theorem d_184_4_7 {B : zeB} {im : Nat → Nat → Int32} {lm : Nat → Nat → Int64} (l2 : Int32) (s0 : Int32) (s1 : Int32)  : zeRun 184 7 [some (.ref 168), some (.ref 4), some (.int l2)] [.int s1, .int s0] (zk B im lm) = if s1 ≤ s0 then zeRun 184 25 [some (.ref 168), some (.ref 4), some (.int l2)] [] (zk B im lm) else zeRun 184 10 [some (.ref 168), some (.ref 4), some (.int l2)] [] (zk B im lm) := ze_if (ok := true) rfl 1 rfl rfl
theorem d_184_4_25 {B : zeB} {im : Nat → Nat → Int32} {lm : Nat → Nat → Int64} (o0 : Option Value) (o1 : Option Value) (o2 : Option Value)  : zeRun 184 25 [o0, o1, o2] [] (zk B im lm) = some (none, (zk B im lm)) := ze_ret (ok := true) rfl 1 rfl rfl
theorem d_184_4_10 {B : zeB} {im : Nat → Nat → Int32} {lm : Nat → Nat → Int64} (l2 : Int32)  : zeRun 184 10 [some (.ref 168), some (.ref 4), some (.int l2)] [] (zk B im lm) = zeBh 184 16 [some (.ref 168), some (.ref 4), some (.int l2)] [.ref 168] (zeRun 182 0 [some (.ref 4), some (.int l2)] [] (zk B im lm)) := ze_call (ok := true) rfl 4 rfl rfl rfl
theorem d_184_4_16 {B : zeB} {im : Nat → Nat → Int32} {lm : Nat → Nat → Int64} (l2 : Int32) (s1 : Int32)  : zeRun 184 16 [some (.ref 168), some (.ref 4), some (.int l2)] [.int s1, .ref 168] (zk B im lm) = zeBh 184 19 [some (.ref 168), some (.ref 4), some (.int l2)] [] (zeRun 183 0 [some (.ref 168), some (.int s1)] [] (zk B im lm)) := ze_call (ok := true) rfl 1 rfl rfl rfl
theorem d_184_4_19 {B : zeB} {im : Nat → Nat → Int32} {lm : Nat → Nat → Int64} (l2 : Int32)  : zeRun 184 19 [some (.ref 168), some (.ref 4), some (.int l2)] [] (zk B im lm) = zeRun 184 2 [some (.ref 168), some (.ref 4), some (.int (l2 + 1))] [] (zk B im lm) := ze_go (ok := true) rfl 2 rfl rfl
def F_184_4_2  : Nat → Int32 → zI → zJ → zR
  | 0, _, _, _ => none
  | n + 1, l2, im, lm =>
    zBd (m_188_4  im lm) fun v1 im1 lm1 =>
    if v1 ≤ l2 then
      some (0, im1, lm1)
    else
      zBd (m_182_4 l2 im1 lm1) fun v2 im2 lm2 =>
      zBd (m_183 v2 im2 lm2) fun _ im3 lm3 =>
      F_184_4_2  n (l2 + 1) im3 lm3
theorem F_184_4_2_ok {B : zeB} : ∀ (n : Nat) (l2 : Int32)  (im : zI) (lm : zJ), zL B 0 (F_184_4_2  n l2 im lm) (zeRun 184 2 [some (.ref 168), some (.ref 4), some (.int l2)] [] (zk B im lm)) := by
  intro n
  induction n with
  | zero => intros; exact zL_none
  | succ n ih =>
    intro l2 im lm
    unfold F_184_4_2
    refine zL_bd (d_184_4_2 _) (m_188_4_ok _ _) fun v1 im1 lm1 => ?_
    refine zL_if (d_184_4_7 _ _ _) (fun h => ?_) (fun h => ?_)
    · skip
      exact zL_retv (d_184_4_25 _ _ _)
    · skip
      refine zL_bd (d_184_4_10 _) (m_182_4_ok _ _ _) fun v2 im2 lm2 => ?_
      refine zL_bdv (d_184_4_16 _ _) (m_183_ok _ _ _) fun _ im3 lm3 => ?_
      refine zL_eq (d_184_4_19 _) ?_
      exact ih _ _ _
def m_184_4  (im : zI) (lm : zJ) : zR :=
    F_184_4_2  2000 0 im lm
theorem m_184_4_ok {B : zeB}  (im : zI) (lm : zJ) : zL B 0 (m_184_4  im lm) (zeRun 184 0 [some (.ref 168), some (.ref 4), none] [] (zk B im lm)) := by
  unfold m_184_4
  refine zL_eq (d_184_4_0 _) ?_
  exact F_184_4_2_ok  _ _ _ _
/-! X9_writeWords_6 -/
theorem d_184_6_0 {B : zeB} {im : Nat → Nat → Int32} {lm : Nat → Nat → Int64} (o2 : Option Value)  : zeRun 184 0 [some (.ref 168), some (.ref 6), o2] [] (zk B im lm) = zeRun 184 2 [some (.ref 168), some (.ref 6), some (.int 0)] [] (zk B im lm) := ze_go (ok := true) rfl 2 rfl rfl
theorem d_184_6_2 {B : zeB} {im : Nat → Nat → Int32} {lm : Nat → Nat → Int64} (l2 : Int32)  : zeRun 184 2 [some (.ref 168), some (.ref 6), some (.int l2)] [] (zk B im lm) = zeBh 184 7 [some (.ref 168), some (.ref 6), some (.int l2)] [.int l2] (zeRun 188 0 [some (.ref 6)] [] (zk B im lm)) := ze_call (ok := true) rfl 3 rfl rfl rfl
theorem d_184_6_7 {B : zeB} {im : Nat → Nat → Int32} {lm : Nat → Nat → Int64} (l2 : Int32) (s0 : Int32) (s1 : Int32)  : zeRun 184 7 [some (.ref 168), some (.ref 6), some (.int l2)] [.int s1, .int s0] (zk B im lm) = if s1 ≤ s0 then zeRun 184 25 [some (.ref 168), some (.ref 6), some (.int l2)] [] (zk B im lm) else zeRun 184 10 [some (.ref 168), some (.ref 6), some (.int l2)] [] (zk B im lm) := ze_if (ok := true) rfl 1 rfl rfl
theorem d_184_6_25 {B : zeB} {im : Nat → Nat → Int32} {lm : Nat → Nat → Int64} (o0 : Option Value) (o1 : Option Value) (o2 : Option Value)  : zeRun 184 25 [o0, o1, o2] [] (zk B im lm) = some (none, (zk B im lm)) := ze_ret (ok := true) rfl 1 rfl rfl
theorem d_184_6_10 {B : zeB} {im : Nat → Nat → Int32} {lm : Nat → Nat → Int64} (l2 : Int32)  : zeRun 184 10 [some (.ref 168), some (.ref 6), some (.int l2)] [] (zk B im lm) = zeBh 184 16 [some (.ref 168), some (.ref 6), some (.int l2)] [.ref 168] (zeRun 182 0 [some (.ref 6), some (.int l2)] [] (zk B im lm)) := ze_call (ok := true) rfl 4 rfl rfl rfl
theorem d_184_6_16 {B : zeB} {im : Nat → Nat → Int32} {lm : Nat → Nat → Int64} (l2 : Int32) (s1 : Int32)  : zeRun 184 16 [some (.ref 168), some (.ref 6), some (.int l2)] [.int s1, .ref 168] (zk B im lm) = zeBh 184 19 [some (.ref 168), some (.ref 6), some (.int l2)] [] (zeRun 183 0 [some (.ref 168), some (.int s1)] [] (zk B im lm)) := ze_call (ok := true) rfl 1 rfl rfl rfl
theorem d_184_6_19 {B : zeB} {im : Nat → Nat → Int32} {lm : Nat → Nat → Int64} (l2 : Int32)  : zeRun 184 19 [some (.ref 168), some (.ref 6), some (.int l2)] [] (zk B im lm) = zeRun 184 2 [some (.ref 168), some (.ref 6), some (.int (l2 + 1))] [] (zk B im lm) := ze_go (ok := true) rfl 2 rfl rfl
def F_184_6_2  : Nat → Int32 → zI → zJ → zR
  | 0, _, _, _ => none
  | n + 1, l2, im, lm =>
    zBd (m_188_6  im lm) fun v1 im1 lm1 =>
    if v1 ≤ l2 then
      some (0, im1, lm1)
    else
      zBd (m_182_6 l2 im1 lm1) fun v2 im2 lm2 =>
      zBd (m_183 v2 im2 lm2) fun _ im3 lm3 =>
      F_184_6_2  n (l2 + 1) im3 lm3
theorem F_184_6_2_ok {B : zeB} : ∀ (n : Nat) (l2 : Int32)  (im : zI) (lm : zJ), zL B 0 (F_184_6_2  n l2 im lm) (zeRun 184 2 [some (.ref 168), some (.ref 6), some (.int l2)] [] (zk B im lm)) := by
  intro n
  induction n with
  | zero => intros; exact zL_none
  | succ n ih =>
    intro l2 im lm
    unfold F_184_6_2
    refine zL_bd (d_184_6_2 _) (m_188_6_ok _ _) fun v1 im1 lm1 => ?_
    refine zL_if (d_184_6_7 _ _ _) (fun h => ?_) (fun h => ?_)
    · skip
      exact zL_retv (d_184_6_25 _ _ _)
    · skip
      refine zL_bd (d_184_6_10 _) (m_182_6_ok _ _ _) fun v2 im2 lm2 => ?_
      refine zL_bdv (d_184_6_16 _ _) (m_183_ok _ _ _) fun _ im3 lm3 => ?_
      refine zL_eq (d_184_6_19 _) ?_
      exact ih _ _ _
def m_184_6  (im : zI) (lm : zJ) : zR :=
    F_184_6_2  2000 0 im lm
theorem m_184_6_ok {B : zeB}  (im : zI) (lm : zJ) : zL B 0 (m_184_6  im lm) (zeRun 184 0 [some (.ref 168), some (.ref 6), none] [] (zk B im lm)) := by
  unfold m_184_6
  refine zL_eq (d_184_6_0 _) ?_
  exact F_184_6_2_ok  _ _ _ _
/-! X9_writeWords_2 -/
theorem d_184_2_0 {B : zeB} {im : Nat → Nat → Int32} {lm : Nat → Nat → Int64} (o2 : Option Value)  : zeRun 184 0 [some (.ref 168), some (.ref 2), o2] [] (zk B im lm) = zeRun 184 2 [some (.ref 168), some (.ref 2), some (.int 0)] [] (zk B im lm) := ze_go (ok := true) rfl 2 rfl rfl
theorem d_184_2_2 {B : zeB} {im : Nat → Nat → Int32} {lm : Nat → Nat → Int64} (l2 : Int32)  : zeRun 184 2 [some (.ref 168), some (.ref 2), some (.int l2)] [] (zk B im lm) = zeBh 184 7 [some (.ref 168), some (.ref 2), some (.int l2)] [.int l2] (zeRun 188 0 [some (.ref 2)] [] (zk B im lm)) := ze_call (ok := true) rfl 3 rfl rfl rfl
theorem d_184_2_7 {B : zeB} {im : Nat → Nat → Int32} {lm : Nat → Nat → Int64} (l2 : Int32) (s0 : Int32) (s1 : Int32)  : zeRun 184 7 [some (.ref 168), some (.ref 2), some (.int l2)] [.int s1, .int s0] (zk B im lm) = if s1 ≤ s0 then zeRun 184 25 [some (.ref 168), some (.ref 2), some (.int l2)] [] (zk B im lm) else zeRun 184 10 [some (.ref 168), some (.ref 2), some (.int l2)] [] (zk B im lm) := ze_if (ok := true) rfl 1 rfl rfl
theorem d_184_2_25 {B : zeB} {im : Nat → Nat → Int32} {lm : Nat → Nat → Int64} (o0 : Option Value) (o1 : Option Value) (o2 : Option Value)  : zeRun 184 25 [o0, o1, o2] [] (zk B im lm) = some (none, (zk B im lm)) := ze_ret (ok := true) rfl 1 rfl rfl
theorem d_184_2_10 {B : zeB} {im : Nat → Nat → Int32} {lm : Nat → Nat → Int64} (l2 : Int32)  : zeRun 184 10 [some (.ref 168), some (.ref 2), some (.int l2)] [] (zk B im lm) = zeBh 184 16 [some (.ref 168), some (.ref 2), some (.int l2)] [.ref 168] (zeRun 182 0 [some (.ref 2), some (.int l2)] [] (zk B im lm)) := ze_call (ok := true) rfl 4 rfl rfl rfl
theorem d_184_2_16 {B : zeB} {im : Nat → Nat → Int32} {lm : Nat → Nat → Int64} (l2 : Int32) (s1 : Int32)  : zeRun 184 16 [some (.ref 168), some (.ref 2), some (.int l2)] [.int s1, .ref 168] (zk B im lm) = zeBh 184 19 [some (.ref 168), some (.ref 2), some (.int l2)] [] (zeRun 183 0 [some (.ref 168), some (.int s1)] [] (zk B im lm)) := ze_call (ok := true) rfl 1 rfl rfl rfl
theorem d_184_2_19 {B : zeB} {im : Nat → Nat → Int32} {lm : Nat → Nat → Int64} (l2 : Int32)  : zeRun 184 19 [some (.ref 168), some (.ref 2), some (.int l2)] [] (zk B im lm) = zeRun 184 2 [some (.ref 168), some (.ref 2), some (.int (l2 + 1))] [] (zk B im lm) := ze_go (ok := true) rfl 2 rfl rfl
def F_184_2_2  : Nat → Int32 → zI → zJ → zR
  | 0, _, _, _ => none
  | n + 1, l2, im, lm =>
    zBd (m_188_2  im lm) fun v1 im1 lm1 =>
    if v1 ≤ l2 then
      some (0, im1, lm1)
    else
      zBd (m_182_2 l2 im1 lm1) fun v2 im2 lm2 =>
      zBd (m_183 v2 im2 lm2) fun _ im3 lm3 =>
      F_184_2_2  n (l2 + 1) im3 lm3
theorem F_184_2_2_ok {B : zeB} : ∀ (n : Nat) (l2 : Int32)  (im : zI) (lm : zJ), zL B 0 (F_184_2_2  n l2 im lm) (zeRun 184 2 [some (.ref 168), some (.ref 2), some (.int l2)] [] (zk B im lm)) := by
  intro n
  induction n with
  | zero => intros; exact zL_none
  | succ n ih =>
    intro l2 im lm
    unfold F_184_2_2
    refine zL_bd (d_184_2_2 _) (m_188_2_ok _ _) fun v1 im1 lm1 => ?_
    refine zL_if (d_184_2_7 _ _ _) (fun h => ?_) (fun h => ?_)
    · skip
      exact zL_retv (d_184_2_25 _ _ _)
    · skip
      refine zL_bd (d_184_2_10 _) (m_182_2_ok _ _ _) fun v2 im2 lm2 => ?_
      refine zL_bdv (d_184_2_16 _ _) (m_183_ok _ _ _) fun _ im3 lm3 => ?_
      refine zL_eq (d_184_2_19 _) ?_
      exact ih _ _ _
def m_184_2  (im : zI) (lm : zJ) : zR :=
    F_184_2_2  2000 0 im lm
theorem m_184_2_ok {B : zeB}  (im : zI) (lm : zJ) : zL B 0 (m_184_2  im lm) (zeRun 184 0 [some (.ref 168), some (.ref 2), none] [] (zk B im lm)) := by
  unfold m_184_2
  refine zL_eq (d_184_2_0 _) ?_
  exact F_184_2_2_ok  _ _ _ _
/-! X9_writeNumber -/
theorem d_185_0 {B : zeB} {im : Nat → Nat → Int32} {lm : Nat → Nat → Int64} (l1 : Int32) (o2 : Option Value) (o3 : Option Value)  : zeRun 185 0 [some (.ref 168), some (.int l1), o2, o3] [] (zk B im lm) = if 0 ≤ l1 then zeRun 185 10 [some (.ref 168), some (.int l1), o2, o3] [] (zk B im lm) else zeRun 185 4 [some (.ref 168), some (.int l1), o2, o3] [] (zk B im lm) := ze_if (ok := true) rfl 2 rfl rfl
theorem d_185_4 {B : zeB} {im : Nat → Nat → Int32} {lm : Nat → Nat → Int64} (l1 : Int32) (o2 : Option Value) (o3 : Option Value)  : zeRun 185 4 [some (.ref 168), some (.int l1), o2, o3] [] (zk B im lm) = zeBh 185 10 [some (.ref 168), some (.int l1), o2, o3] [] (zeRun 183 0 [some (.ref 168), some (.int 45)] [] (zk B im lm)) := ze_call (ok := true) rfl 3 rfl rfl rfl
theorem d_185_10 {B : zeB} {im : Nat → Nat → Int32} {lm : Nat → Nat → Int64} (l1 : Int32) (o2 : Option Value) (o3 : Option Value)  : zeRun 185 10 [some (.ref 168), some (.int l1), o2, o3] [] (zk B im lm) = zeRun 185 18 [some (.ref 168), some (.int l1), some (.int (if 0 ≤ l1 then l1 else 0 - l1)), some (.int 10000000)] [] (zk B im lm) := ze_go (ok := true) rfl 5 rfl rfl
theorem d_185_18 {B : zeB} {im : Nat → Nat → Int32} {lm : Nat → Nat → Int64} (o1 : Option Value) (l2 : Int32) (l3 : Int32)  : zeRun 185 18 [some (.ref 168), o1, some (.int l2), some (.int l3)] [] (zk B im lm) = if l3 ≤ 0 then zeRun 185 54 [some (.ref 168), o1, some (.int l2), some (.int l3)] [] (zk B im lm) else zeRun 185 22 [some (.ref 168), o1, some (.int l2), some (.int l3)] [] (zk B im lm) := ze_if (ok := true) rfl 2 rfl rfl
theorem d_185_54 {B : zeB} {im : Nat → Nat → Int32} {lm : Nat → Nat → Int64} (o0 : Option Value) (o1 : Option Value) (o2 : Option Value) (o3 : Option Value)  : zeRun 185 54 [o0, o1, o2, o3] [] (zk B im lm) = some (none, (zk B im lm)) := ze_ret (ok := true) rfl 1 rfl rfl
theorem d_185_22 {B : zeB} {im : Nat → Nat → Int32} {lm : Nat → Nat → Int64} (o1 : Option Value) (l2 : Int32) (l3 : Int32)  : zeRun 185 22 [some (.ref 168), o1, some (.int l2), some (.int l3)] [] (zk B im lm) = if l3 ≤ l2 then zeRun 185 32 [some (.ref 168), o1, some (.int l2), some (.int l3)] [] (zk B im lm) else zeRun 185 27 [some (.ref 168), o1, some (.int l2), some (.int l3)] [] (zk B im lm) := ze_if (ok := true) rfl 3 rfl rfl
theorem d_185_27 {B : zeB} {im : Nat → Nat → Int32} {lm : Nat → Nat → Int64} (o1 : Option Value) (l2 : Int32) (l3 : Int32)  : zeRun 185 27 [some (.ref 168), o1, some (.int l2), some (.int l3)] [] (zk B im lm) = if l3 = 1 then zeRun 185 32 [some (.ref 168), o1, some (.int l2), some (.int l3)] [] (zk B im lm) else zeRun 185 46 [some (.ref 168), o1, some (.int l2), some (.int l3)] [] (zk B im lm) := ze_if (ok := true) rfl 3 rfl rfl
theorem d_185_46 {B : zeB} {im : Nat → Nat → Int32} {lm : Nat → Nat → Int64} (o1 : Option Value) (l2 : Int32) (l3 : Int32)  : zeRun 185 46 [some (.ref 168), o1, some (.int l2), some (.int l3)] [] (zk B im lm) = zeRun 185 18 [some (.ref 168), o1, some (.int l2), some (.int (l3 / 10))] [] (zk B im lm) := ze_go (ok := true) rfl 5 rfl rfl
theorem d_185_32 {B : zeB} {im : Nat → Nat → Int32} {lm : Nat → Nat → Int64} (o1 : Option Value) (l2 : Int32) (l3 : Int32) (c0 : (!(decide (l3 = 0))) = true) : zeRun 185 32 [some (.ref 168), o1, some (.int l2), some (.int l3)] [] (zk B im lm) = zeBh 185 46 [some (.ref 168), o1, some (.int l2), some (.int l3)] [] (zeRun 183 0 [some (.ref 168), some (.int (zfi2c (48 + (zfirem (l2 / l3) 10))))] [] (zk B im lm)) := ze_call (ok := ((!(decide (l3 = 0))) && true)) rfl 10 rfl rfl (zeA2 c0 rfl)
def J_185_32 (K18 : Int32 → Int32 → zI → zJ → zR) (l2 : Int32) (l3 : Int32) (im : zI) (lm : zJ) : zR :=
    zCk ((!(decide (l3 = 0)))) <|
    zBd (m_183 (zfi2c (48 + (zfirem (l2 / l3) 10))) im lm) fun _ im1 lm1 =>
    K18 l2 (l3 / 10) im1 lm1
theorem J_185_32_ok {B : zeB} (K18 : Int32 → Int32 → zI → zJ → zR) (hK18 : ∀ (l2 : Int32) (l3 : Int32) (o1 : Option Value) (im : zI) (lm : zJ), zL B 0 (K18 l2 l3 im lm) (zeRun 185 18 [some (.ref 168), o1, some (.int l2), some (.int l3)] [] (zk B im lm))) (l2 : Int32) (l3 : Int32) (o1 : Option Value) (im : zI) (lm : zJ) : zL B 0 (J_185_32 K18 l2 l3 im lm) (zeRun 185 32 [some (.ref 168), o1, some (.int l2), some (.int l3)] [] (zk B im lm)) := by
  unfold J_185_32
  refine zL_ck fun c1 => ?_
  refine zL_bdv (d_185_32 _ _ _ c1) (m_183_ok _ _ _) fun _ im1 lm1 => ?_
  refine zL_eq (d_185_46 _ _ _) ?_
  exact hK18 _ _ _ _ _
def F_185_18  : Nat → Int32 → Int32 → zI → zJ → zR
  | 0, _, _, _, _ => none
  | n + 1, l2, l3, im, lm =>
    if l3 ≤ 0 then
      some (0, im, lm)
    else
      if l3 ≤ l2 then
        J_185_32 (F_185_18  n)  l2 l3 im lm
      else
        if l3 = 1 then
          J_185_32 (F_185_18  n)  l2 l3 im lm
        else
          F_185_18  n l2 (l3 / 10) im lm
theorem F_185_18_ok {B : zeB} : ∀ (n : Nat) (l2 : Int32) (l3 : Int32) (o1 : Option Value) (im : zI) (lm : zJ), zL B 0 (F_185_18  n l2 l3 im lm) (zeRun 185 18 [some (.ref 168), o1, some (.int l2), some (.int l3)] [] (zk B im lm)) := by
  intro n
  induction n with
  | zero => intros; exact zL_none
  | succ n ih =>
    intro l2 l3 o1 im lm
    unfold F_185_18
    refine zL_if (d_185_18 _ _ _) (fun h => ?_) (fun h => ?_)
    · skip
      exact zL_retv (d_185_54 _ _ _ _)
    · skip
      refine zL_if (d_185_22 _ _ _) (fun h => ?_) (fun h => ?_)
      · skip
        exact J_185_32_ok _ ih  _ _ _ _ _
      · skip
        refine zL_if (d_185_27 _ _ _) (fun h => ?_) (fun h => ?_)
        · skip
          exact J_185_32_ok _ ih  _ _ _ _ _
        · skip
          refine zL_eq (d_185_46 _ _ _) ?_
          exact ih _ _ _ _ _
def J_185_10  (l1 : Int32) (im : zI) (lm : zJ) : zR :=
    F_185_18  2000 (if 0 ≤ l1 then l1 else 0 - l1) 10000000 im lm
theorem J_185_10_ok {B : zeB} (l1 : Int32) (o2 : Option Value) (o3 : Option Value) (im : zI) (lm : zJ) : zL B 0 (J_185_10  l1 im lm) (zeRun 185 10 [some (.ref 168), some (.int l1), o2, o3] [] (zk B im lm)) := by
  unfold J_185_10
  refine zL_eq (d_185_10 _ _ _) ?_
  exact F_185_18_ok  _ _ _ _ _ _
def m_185 (l1 : Int32) (im : zI) (lm : zJ) : zR :=
    if 0 ≤ l1 then
      J_185_10   l1 im lm
    else
      zBd (m_183 45 im lm) fun _ im1 lm1 =>
      J_185_10   l1 im1 lm1
theorem m_185_ok {B : zeB} (l1 : Int32) (im : zI) (lm : zJ) : zL B 0 (m_185 l1 im lm) (zeRun 185 0 [some (.ref 168), some (.int l1), none, none] [] (zk B im lm)) := by
  unfold m_185
  refine zL_if (d_185_0 _ _ _) (fun h => ?_) (fun h => ?_)
  · skip
    exact J_185_10_ok   _ _ _ _ _
  · skip
    refine zL_bdv (d_185_4 _ _ _) (m_183_ok _ _ _) fun _ im1 lm1 => ?_
    exact J_185_10_ok   _ _ _ _ _
/-! X7_writeMessage -/
theorem d_201_0 {B : zeB} {im : Nat → Nat → Int32} {lm : Nat → Nat → Int64} (o1 : Option Value) (o2 : Option Value)  : zeRun 201 0 [some (.ref 16), o1, o2] [] (zk B im lm) = zeBh 201 18 [some (.ref 16), o1, o2] [] (zeRun 184 0 [some (.ref 168), some (.ref 4), none] [] (zk B (zeU2 im 168 0 0) lm)) := ze_call (ok := true) rfl 8 rfl rfl rfl
theorem d_201_18 {B : zeB} {im : Nat → Nat → Int32} {lm : Nat → Nat → Int64} (o1 : Option Value) (o2 : Option Value)  : zeRun 201 18 [some (.ref 16), o1, o2] [] (zk B im lm) = zeBh 201 32 [some (.ref 16), o1, o2] [] (zeRun 185 0 [some (.ref 168), some (.int (im 17 0)), none, none] [] (zk B im lm)) := ze_call (ok := true) rfl 6 rfl rfl rfl
theorem d_201_32 {B : zeB} {im : Nat → Nat → Int32} {lm : Nat → Nat → Int64} (o1 : Option Value) (o2 : Option Value)  : zeRun 201 32 [some (.ref 16), o1, o2] [] (zk B im lm) = zeRun 201 34 [some (.ref 16), some (.int 0), o2] [] (zk B im lm) := ze_go (ok := true) rfl 2 rfl rfl
theorem d_201_34 {B : zeB} {im : Nat → Nat → Int32} {lm : Nat → Nat → Int64} (l1 : Int32) (o2 : Option Value)  : zeRun 201 34 [some (.ref 16), some (.int l1), o2] [] (zk B im lm) = if (im 17 1) ≤ l1 then zeRun 201 100 [some (.ref 16), some (.int l1), o2] [] (zk B im lm) else zeRun 201 45 [some (.ref 16), some (.int l1), o2] [] (zk B im lm) := ze_if (ok := true) rfl 5 rfl rfl
theorem d_201_100 {B : zeB} {im : Nat → Nat → Int32} {lm : Nat → Nat → Int64} (o0 : Option Value) (o1 : Option Value) (o2 : Option Value)  : zeRun 201 100 [o0, o1, o2] [] (zk B im lm) = some (none, (zk B im lm)) := ze_ret (ok := true) rfl 1 rfl rfl
theorem d_201_45 {B : zeB} {im : Nat → Nat → Int32} {lm : Nat → Nat → Int64} (l1 : Int32) (o2 : Option Value)  : zeRun 201 45 [some (.ref 16), some (.int l1), o2] [] (zk B im lm) = zeBh 201 50 [some (.ref 16), some (.int l1), o2] [] (zeRun 162 0 [some (.ref 16), some (.int l1), none] [] (zk B im lm)) := ze_call (ok := true) rfl 3 rfl rfl rfl
theorem d_201_50 {B : zeB} {im : Nat → Nat → Int32} {lm : Nat → Nat → Int64} (l1 : Int32) (o2 : Option Value) (s0 : Int32)  : zeRun 201 50 [some (.ref 16), some (.int l1), o2] [.int s0] (zk B im lm) = zeBh 201 61 [some (.ref 16), some (.int l1), some (.int s0)] [] (zeRun 184 0 [some (.ref 168), some (.ref 6), none] [] (zk B im lm)) := ze_call (ok := true) rfl 5 rfl rfl rfl
theorem d_201_61 {B : zeB} {im : Nat → Nat → Int32} {lm : Nat → Nat → Int64} (l1 : Int32) (l2 : Int32)  : zeRun 201 61 [some (.ref 16), some (.int l1), some (.int l2)] [] (zk B im lm) = zeBh 201 69 [some (.ref 16), some (.int l1), some (.int l2)] [] (zeRun 185 0 [some (.ref 168), some (.int l2), none, none] [] (zk B im lm)) := ze_call (ok := true) rfl 4 rfl rfl rfl
theorem d_201_69 {B : zeB} {im : Nat → Nat → Int32} {lm : Nat → Nat → Int64} (l1 : Int32) (l2 : Int32)  : zeRun 201 69 [some (.ref 16), some (.int l1), some (.int l2)] [] (zk B im lm) = zeBh 201 79 [some (.ref 16), some (.int l1), some (.int l2)] [] (zeRun 184 0 [some (.ref 168), some (.ref 2), none] [] (zk B im lm)) := ze_call (ok := true) rfl 4 rfl rfl rfl
theorem d_201_79 {B : zeB} {im : Nat → Nat → Int32} {lm : Nat → Nat → Int64} (l1 : Int32) (l2 : Int32)  : zeRun 201 79 [some (.ref 16), some (.int l1), some (.int l2)] [] (zk B im lm) = zeBh 201 91 [some (.ref 16), some (.int l1), some (.int l2)] [.ref 168] (zeRun 137 0 [some (.ref 32), some (.int l2)] [] (zk B im lm)) := ze_call (ok := true) rfl 6 rfl rfl rfl
theorem d_201_91 {B : zeB} {im : Nat → Nat → Int32} {lm : Nat → Nat → Int64} (l1 : Int32) (o2 : Option Value) (s1 : Int32)  : zeRun 201 91 [some (.ref 16), some (.int l1), o2] [.int s1, .ref 168] (zk B im lm) = zeBh 201 94 [some (.ref 16), some (.int l1), o2] [] (zeRun 185 0 [some (.ref 168), some (.int s1), none, none] [] (zk B im lm)) := ze_call (ok := true) rfl 1 rfl rfl rfl
theorem d_201_94 {B : zeB} {im : Nat → Nat → Int32} {lm : Nat → Nat → Int64} (l1 : Int32) (o2 : Option Value)  : zeRun 201 94 [some (.ref 16), some (.int l1), o2] [] (zk B im lm) = zeRun 201 34 [some (.ref 16), some (.int (l1 + 1)), o2] [] (zk B im lm) := ze_go (ok := true) rfl 2 rfl rfl
def F_201_34  : Nat → Int32 → zI → zJ → zR
  | 0, _, _, _ => none
  | n + 1, l1, im, lm =>
    if (im 17 1) ≤ l1 then
      some (0, im, lm)
    else
      zBd (m_162 l1 im lm) fun v1 im1 lm1 =>
      zBd (m_184_6  im1 lm1) fun _ im2 lm2 =>
      zBd (m_185 v1 im2 lm2) fun _ im3 lm3 =>
      zBd (m_184_2  im3 lm3) fun _ im4 lm4 =>
      zBd (m_137 v1 im4 lm4) fun v5 im5 lm5 =>
      zBd (m_185 v5 im5 lm5) fun _ im6 lm6 =>
      F_201_34  n (l1 + 1) im6 lm6
theorem F_201_34_ok {B : zeB} : ∀ (n : Nat) (l1 : Int32) (o2 : Option Value) (im : zI) (lm : zJ), zL B 0 (F_201_34  n l1 im lm) (zeRun 201 34 [some (.ref 16), some (.int l1), o2] [] (zk B im lm)) := by
  intro n
  induction n with
  | zero => intros; exact zL_none
  | succ n ih =>
    intro l1 o2 im lm
    unfold F_201_34
    refine zL_if (d_201_34 _ _) (fun h => ?_) (fun h => ?_)
    · skip
      exact zL_retv (d_201_100 _ _ _)
    · skip
      refine zL_bd (d_201_45 _ _) (m_162_ok _ _ _) fun v1 im1 lm1 => ?_
      refine zL_bdv (d_201_50 _ _ _) (m_184_6_ok _ _) fun _ im2 lm2 => ?_
      refine zL_bdv (d_201_61 _ _) (m_185_ok _ _ _) fun _ im3 lm3 => ?_
      refine zL_bdv (d_201_69 _ _) (m_184_2_ok _ _) fun _ im4 lm4 => ?_
      refine zL_bd (d_201_79 _ _) (m_137_ok _ _ _) fun v5 im5 lm5 => ?_
      refine zL_bdv (d_201_91 _ _ _) (m_185_ok _ _ _) fun _ im6 lm6 => ?_
      refine zL_eq (d_201_94 _ _) ?_
      exact ih _ _ _ _
def m_201  (im : zI) (lm : zJ) : zR :=
    zBd (m_184_4  (zeU2 im 168 0 0) lm) fun _ im1 lm1 =>
    zBd (m_185 (im1 17 0) im1 lm1) fun _ im2 lm2 =>
    F_201_34  2000 0 im2 lm2
theorem m_201_ok {B : zeB}  (im : zI) (lm : zJ) : zL B 0 (m_201  im lm) (zeRun 201 0 [some (.ref 16), none, none] [] (zk B im lm)) := by
  unfold m_201
  refine zL_bdv (d_201_0 _ _) (m_184_4_ok _ _) fun _ im1 lm1 => ?_
  refine zL_bdv (d_201_18 _ _) (m_185_ok _ _ _) fun _ im2 lm2 => ?_
  refine zL_eq (d_201_32 _ _) ?_
  exact F_201_34_ok  _ _ _ _ _
/-! X7_messageAt -/
theorem d_208_0 {B : zeB} {im : Nat → Nat → Int32} {lm : Nat → Nat → Int64} (l1 : Int32)  : zeRun 208 0 [some (.ref 16), some (.int l1)] [] (zk B im lm) = if 0 ≤ l1 then zeRun 208 7 [some (.ref 16), some (.int l1)] [] (zk B im lm) else zeRun 208 4 [some (.ref 16), some (.int l1)] [] (zk B im lm) := ze_if (ok := true) rfl 2 rfl rfl
theorem d_208_7 {B : zeB} {im : Nat → Nat → Int32} {lm : Nat → Nat → Int64} (l1 : Int32)  : zeRun 208 7 [some (.ref 16), some (.int l1)] [] (zk B im lm) = zeBh 208 11 [some (.ref 16), some (.int l1)] [] (zeRun 201 0 [some (.ref 16), none, none] [] (zk B im lm)) := ze_call (ok := true) rfl 2 rfl rfl rfl
theorem d_208_11 {B : zeB} {im : Nat → Nat → Int32} {lm : Nat → Nat → Int64} (l1 : Int32)  : zeRun 208 11 [some (.ref 16), some (.int l1)] [] (zk B im lm) = if (im 168 0) ≤ l1 then zeRun 208 34 [some (.ref 16), some (.int l1)] [] (zk B im lm) else zeRun 208 22 [some (.ref 16), some (.int l1)] [] (zk B im lm) := ze_if (ok := true) rfl 5 rfl rfl
theorem d_208_34 {B : zeB} {im : Nat → Nat → Int32} {lm : Nat → Nat → Int64} (o0 : Option Value) (o1 : Option Value)  : zeRun 208 34 [o0, o1] [] (zk B im lm) = some (some (.int (-10000005)), (zk B im lm)) := ze_ret (ok := true) rfl 2 rfl rfl
theorem d_208_22 {B : zeB} {im : Nat → Nat → Int32} {lm : Nat → Nat → Int64} (l1 : Int32) (c0 : zeInb l1 128 = true) : zeRun 208 22 [some (.ref 16), some (.int l1)] [] (zk B im lm) = some (some (.int (im 169 (Int32.toNatClampNeg l1))), (zk B im lm)) := ze_ret (ok := (zeInb l1 128 && true)) rfl 7 rfl (zeA2 c0 rfl)
theorem d_208_4 {B : zeB} {im : Nat → Nat → Int32} {lm : Nat → Nat → Int64} (o0 : Option Value) (o1 : Option Value)  : zeRun 208 4 [o0, o1] [] (zk B im lm) = some (some (.int (-10000002)), (zk B im lm)) := ze_ret (ok := true) rfl 2 rfl rfl
def m_208 (l1 : Int32) (im : zI) (lm : zJ) : zR :=
    if 0 ≤ l1 then
      zBd (m_201  im lm) fun _ im1 lm1 =>
      zCk (if (im1 168 0) ≤ l1 then true else zeInb l1 128) <|
      some (if (im1 168 0) ≤ l1 then (-10000005) else (im1 169 (Int32.toNatClampNeg l1)), im1, lm1)
    else
      some ((-10000002), im, lm)
theorem m_208_ok {B : zeB} (l1 : Int32) (im : zI) (lm : zJ) : zL B 1 (m_208 l1 im lm) (zeRun 208 0 [some (.ref 16), some (.int l1)] [] (zk B im lm)) := by
  unfold m_208
  refine zL_if (d_208_0 _) (fun h => ?_) (fun h => ?_)
  · skip
    refine zL_bdv (d_208_7 _) (m_201_ok _ _) fun _ im1 lm1 => ?_
    refine zL_ifm (d_208_11 _) (fun h => ?_) (fun h => ?_)
    · repeat rw [if_pos h]
      refine zL_ckt ?_
      exact zL_ret (d_208_34 _ _)
    · repeat rw [if_neg h]
      refine zL_ck fun c1 => ?_
      exact zL_ret (d_208_22 _ c1)
  · skip
    exact zL_ret (d_208_4 _ _)
/-! X8_write -/
theorem d_209_0 {B : zeB} {im : Nat → Nat → Int32} {lm : Nat → Nat → Int64} (l1 : Int32) (c0 : zeInb (im 170 20) 160 = true) : zeRun 209 0 [some (.ref 170), some (.int l1)] [] (zk B im lm) = some (none, (zk B (zeU2 (zeU2 im 186 (Int32.toNatClampNeg (im 170 20)) l1) 170 20 ((im 170 20) + 1)) lm)) := ze_ret (ok := (zeInb (im 170 20) 160 && true)) rfl 13 rfl (zeA2 c0 rfl)
def m_209 (l1 : Int32) (im : zI) (lm : zJ) : zR :=
    zCk (zeInb (im 170 20) 160) <|
    some (0, (zeU2 (zeU2 im 186 (Int32.toNatClampNeg (im 170 20)) l1) 170 20 ((im 170 20) + 1)), lm)
theorem m_209_ok {B : zeB} (l1 : Int32) (im : zI) (lm : zJ) : zL B 0 (m_209 l1 im lm) (zeRun 209 0 [some (.ref 170), some (.int l1)] [] (zk B im lm)) := by
  unfold m_209
  refine zL_ck fun c1 => ?_
  exact zL_retv (d_209_0 _ c1)
/-! X8_writeNumber -/
theorem d_210_0 {B : zeB} {im : Nat → Nat → Int32} {lm : Nat → Nat → Int64} (l1 : Int32) (o2 : Option Value) (o3 : Option Value)  : zeRun 210 0 [some (.ref 170), some (.int l1), o2, o3] [] (zk B im lm) = if 0 ≤ l1 then zeRun 210 9 [some (.ref 170), some (.int l1), o2, o3] [] (zk B im lm) else zeRun 210 4 [some (.ref 170), some (.int l1), o2, o3] [] (zk B im lm) := ze_if (ok := true) rfl 2 rfl rfl
theorem d_210_9 {B : zeB} {im : Nat → Nat → Int32} {lm : Nat → Nat → Int64} (l1 : Int32) (o2 : Option Value) (o3 : Option Value)  : zeRun 210 9 [some (.ref 170), some (.int l1), o2, o3] [] (zk B im lm) = zeRun 210 10 [some (.ref 170), some (.int l1), o2, o3] [.int l1] (zk B im lm) := ze_go (ok := true) rfl 1 rfl rfl
theorem d_210_4 {B : zeB} {im : Nat → Nat → Int32} {lm : Nat → Nat → Int64} (l1 : Int32) (o2 : Option Value) (o3 : Option Value)  : zeRun 210 4 [some (.ref 170), some (.int l1), o2, o3] [] (zk B im lm) = zeRun 210 10 [some (.ref 170), some (.int l1), o2, o3] [.int (-l1)] (zk B im lm) := ze_go (ok := true) rfl 3 rfl rfl
theorem d_210_10 {B : zeB} {im : Nat → Nat → Int32} {lm : Nat → Nat → Int64} (l1 : Int32) (o2 : Option Value) (o3 : Option Value) (s0 : Int32)  : zeRun 210 10 [some (.ref 170), some (.int l1), o2, o3] [.int s0] (zk B im lm) = if 0 ≤ l1 then zeRun 210 23 [some (.ref 170), some (.int l1), some (.int s0), some (.int 1)] [] (zk B im lm) else zeRun 210 17 [some (.ref 170), some (.int l1), some (.int s0), some (.int 1)] [] (zk B im lm) := ze_if (ok := true) rfl 5 rfl rfl
theorem d_210_17 {B : zeB} {im : Nat → Nat → Int32} {lm : Nat → Nat → Int64} (o1 : Option Value) (l2 : Int32) (l3 : Int32)  : zeRun 210 17 [some (.ref 170), o1, some (.int l2), some (.int l3)] [] (zk B im lm) = zeBh 210 23 [some (.ref 170), o1, some (.int l2), some (.int l3)] [] (zeRun 209 0 [some (.ref 170), some (.int 45)] [] (zk B im lm)) := ze_call (ok := true) rfl 3 rfl rfl rfl
theorem d_210_23 {B : zeB} {im : Nat → Nat → Int32} {lm : Nat → Nat → Int64} (o1 : Option Value) (l2 : Int32) (l3 : Int32)  : zeRun 210 23 [some (.ref 170), o1, some (.int l2), some (.int l3)] [] (zk B im lm) = if (l2 / 10) < l3 then zeRun 210 39 [some (.ref 170), o1, some (.int l2), some (.int l3)] [] (zk B im lm) else zeRun 210 31 [some (.ref 170), o1, some (.int l2), some (.int l3)] [] (zk B im lm) := ze_if (ok := true) rfl 5 rfl rfl
theorem d_210_31 {B : zeB} {im : Nat → Nat → Int32} {lm : Nat → Nat → Int64} (o1 : Option Value) (l2 : Int32) (l3 : Int32)  : zeRun 210 31 [some (.ref 170), o1, some (.int l2), some (.int l3)] [] (zk B im lm) = zeRun 210 23 [some (.ref 170), o1, some (.int l2), some (.int (l3 * 10))] [] (zk B im lm) := ze_go (ok := true) rfl 5 rfl rfl
theorem d_210_39 {B : zeB} {im : Nat → Nat → Int32} {lm : Nat → Nat → Int64} (o1 : Option Value) (l2 : Int32) (l3 : Int32)  : zeRun 210 39 [some (.ref 170), o1, some (.int l2), some (.int l3)] [] (zk B im lm) = if l3 ≤ 0 then zeRun 210 64 [some (.ref 170), o1, some (.int l2), some (.int l3)] [] (zk B im lm) else zeRun 210 43 [some (.ref 170), o1, some (.int l2), some (.int l3)] [] (zk B im lm) := ze_if (ok := true) rfl 2 rfl rfl
theorem d_210_64 {B : zeB} {im : Nat → Nat → Int32} {lm : Nat → Nat → Int64} (o0 : Option Value) (o1 : Option Value) (o2 : Option Value) (o3 : Option Value)  : zeRun 210 64 [o0, o1, o2, o3] [] (zk B im lm) = some (none, (zk B im lm)) := ze_ret (ok := true) rfl 1 rfl rfl
theorem d_210_43 {B : zeB} {im : Nat → Nat → Int32} {lm : Nat → Nat → Int64} (o1 : Option Value) (l2 : Int32) (l3 : Int32) (c0 : (!(decide (l3 = 0))) = true) : zeRun 210 43 [some (.ref 170), o1, some (.int l2), some (.int l3)] [] (zk B im lm) = zeBh 210 56 [some (.ref 170), o1, some (.int l2), some (.int l3)] [] (zeRun 209 0 [some (.ref 170), some (.int (48 + (zfirem (l2 / l3) 10)))] [] (zk B im lm)) := ze_call (ok := ((!(decide (l3 = 0))) && true)) rfl 9 rfl rfl (zeA2 c0 rfl)
theorem d_210_56 {B : zeB} {im : Nat → Nat → Int32} {lm : Nat → Nat → Int64} (o1 : Option Value) (l2 : Int32) (l3 : Int32)  : zeRun 210 56 [some (.ref 170), o1, some (.int l2), some (.int l3)] [] (zk B im lm) = zeRun 210 39 [some (.ref 170), o1, some (.int l2), some (.int (l3 / 10))] [] (zk B im lm) := ze_go (ok := true) rfl 5 rfl rfl
def F_210_39  : Nat → Int32 → Int32 → zI → zJ → zR
  | 0, _, _, _, _ => none
  | n + 1, l2, l3, im, lm =>
    if l3 ≤ 0 then
      some (0, im, lm)
    else
      zCk ((!(decide (l3 = 0)))) <|
      zBd (m_209 (48 + (zfirem (l2 / l3) 10)) im lm) fun _ im1 lm1 =>
      F_210_39  n l2 (l3 / 10) im1 lm1
theorem F_210_39_ok {B : zeB} : ∀ (n : Nat) (l2 : Int32) (l3 : Int32) (o1 : Option Value) (im : zI) (lm : zJ), zL B 0 (F_210_39  n l2 l3 im lm) (zeRun 210 39 [some (.ref 170), o1, some (.int l2), some (.int l3)] [] (zk B im lm)) := by
  intro n
  induction n with
  | zero => intros; exact zL_none
  | succ n ih =>
    intro l2 l3 o1 im lm
    unfold F_210_39
    refine zL_if (d_210_39 _ _ _) (fun h => ?_) (fun h => ?_)
    · skip
      exact zL_retv (d_210_64 _ _ _ _)
    · skip
      refine zL_ck fun c1 => ?_
      refine zL_bdv (d_210_43 _ _ _ c1) (m_209_ok _ _ _) fun _ im1 lm1 => ?_
      refine zL_eq (d_210_56 _ _ _) ?_
      exact ih _ _ _ _ _
def F_210_23  : Nat → Int32 → Int32 → zI → zJ → zR
  | 0, _, _, _, _ => none
  | n + 1, l2, l3, im, lm =>
    if (l2 / 10) < l3 then
      F_210_39  2000 l2 l3 im lm
    else
      F_210_23  n l2 (l3 * 10) im lm
theorem F_210_23_ok {B : zeB} : ∀ (n : Nat) (l2 : Int32) (l3 : Int32) (o1 : Option Value) (im : zI) (lm : zJ), zL B 0 (F_210_23  n l2 l3 im lm) (zeRun 210 23 [some (.ref 170), o1, some (.int l2), some (.int l3)] [] (zk B im lm)) := by
  intro n
  induction n with
  | zero => intros; exact zL_none
  | succ n ih =>
    intro l2 l3 o1 im lm
    unfold F_210_23
    refine zL_if (d_210_23 _ _ _) (fun h => ?_) (fun h => ?_)
    · skip
      exact F_210_39_ok  _ _ _ _ _ _
    · skip
      refine zL_eq (d_210_31 _ _ _) ?_
      exact ih _ _ _ _ _
def J_210_10  (l1 : Int32) (s0 : Int32) (im : zI) (lm : zJ) : zR :=
    if 0 ≤ l1 then
      F_210_23  2000 s0 1 im lm
    else
      zBd (m_209 45 im lm) fun _ im1 lm1 =>
      F_210_23  2000 s0 1 im1 lm1
theorem J_210_10_ok {B : zeB} (l1 : Int32) (s0 : Int32) (o2 : Option Value) (o3 : Option Value) (im : zI) (lm : zJ) : zL B 0 (J_210_10  l1 s0 im lm) (zeRun 210 10 [some (.ref 170), some (.int l1), o2, o3] [.int s0] (zk B im lm)) := by
  unfold J_210_10
  refine zL_if (d_210_10 _ _ _ _) (fun h => ?_) (fun h => ?_)
  · skip
    exact F_210_23_ok  _ _ _ _ _ _
  · skip
    refine zL_bdv (d_210_17 _ _ _) (m_209_ok _ _ _) fun _ im1 lm1 => ?_
    exact F_210_23_ok  _ _ _ _ _ _
def m_210 (l1 : Int32) (im : zI) (lm : zJ) : zR :=
    J_210_10   l1 (if 0 ≤ l1 then l1 else (-l1)) im lm
theorem m_210_ok {B : zeB} (l1 : Int32) (im : zI) (lm : zJ) : zL B 0 (m_210 l1 im lm) (zeRun 210 0 [some (.ref 170), some (.int l1), none, none] [] (zk B im lm)) := by
  unfold m_210
  refine zL_ifm (d_210_0 _ _ _) (fun h => ?_) (fun h => ?_)
  · repeat rw [if_pos h]
    refine zL_eq (d_210_9 _ _ _) ?_
    exact J_210_10_ok   _ _ _ _ _ _
  · repeat rw [if_neg h]
    refine zL_eq (d_210_4 _ _ _) ?_
    exact J_210_10_ok   _ _ _ _ _ _
/-! X8_messageAt -/
theorem d_211_0 {B : zeB} {im : Nat → Nat → Int32} {lm : Nat → Nat → Int64} (l1 : Int32) (o2 : Option Value) (o3 : Option Value)  : zeRun 211 0 [some (.ref 170), some (.int l1), o2, o3] [] (zk B im lm) = if 0 ≤ l1 then zeRun 211 7 [some (.ref 170), some (.int l1), o2, o3] [] (zk B im lm) else zeRun 211 4 [some (.ref 170), some (.int l1), o2, o3] [] (zk B im lm) := ze_if (ok := true) rfl 2 rfl rfl
theorem d_211_7 {B : zeB} {im : Nat → Nat → Int32} {lm : Nat → Nat → Int64} (l1 : Int32) (o2 : Option Value) (o3 : Option Value)  : zeRun 211 7 [some (.ref 170), some (.int l1), o2, o3] [] (zk B im lm) = zeBh 211 11 [some (.ref 170), some (.int l1), o2, o3] [] (zeRun 47 0 [some (.ref 170), none, none, none, none, none, none] [] (zk B im lm)) := ze_call (ok := true) rfl 2 rfl rfl rfl
theorem d_211_11 {B : zeB} {im : Nat → Nat → Int32} {lm : Nat → Nat → Int64} (l1 : Int32) (o2 : Option Value) (o3 : Option Value)  : zeRun 211 11 [some (.ref 170), some (.int l1), o2, o3] [] (zk B im lm) = zeBh 211 22 [some (.ref 170), some (.int l1), o2, o3] [] (zeRun 209 0 [some (.ref 170), some (.int 112)] [] (zk B (zeU2 im 170 20 0) lm)) := ze_call (ok := true) rfl 6 rfl rfl rfl
theorem d_211_22 {B : zeB} {im : Nat → Nat → Int32} {lm : Nat → Nat → Int64} (l1 : Int32) (o2 : Option Value) (o3 : Option Value)  : zeRun 211 22 [some (.ref 170), some (.int l1), o2, o3] [] (zk B im lm) = zeBh 211 28 [some (.ref 170), some (.int l1), o2, o3] [] (zeRun 209 0 [some (.ref 170), some (.int 104)] [] (zk B im lm)) := ze_call (ok := true) rfl 3 rfl rfl rfl
theorem d_211_28 {B : zeB} {im : Nat → Nat → Int32} {lm : Nat → Nat → Int64} (l1 : Int32) (o2 : Option Value) (o3 : Option Value)  : zeRun 211 28 [some (.ref 170), some (.int l1), o2, o3] [] (zk B im lm) = zeBh 211 34 [some (.ref 170), some (.int l1), o2, o3] [] (zeRun 209 0 [some (.ref 170), some (.int 97)] [] (zk B im lm)) := ze_call (ok := true) rfl 3 rfl rfl rfl
theorem d_211_34 {B : zeB} {im : Nat → Nat → Int32} {lm : Nat → Nat → Int64} (l1 : Int32) (o2 : Option Value) (o3 : Option Value)  : zeRun 211 34 [some (.ref 170), some (.int l1), o2, o3] [] (zk B im lm) = zeBh 211 40 [some (.ref 170), some (.int l1), o2, o3] [] (zeRun 209 0 [some (.ref 170), some (.int 115)] [] (zk B im lm)) := ze_call (ok := true) rfl 3 rfl rfl rfl
theorem d_211_40 {B : zeB} {im : Nat → Nat → Int32} {lm : Nat → Nat → Int64} (l1 : Int32) (o2 : Option Value) (o3 : Option Value)  : zeRun 211 40 [some (.ref 170), some (.int l1), o2, o3] [] (zk B im lm) = zeBh 211 46 [some (.ref 170), some (.int l1), o2, o3] [] (zeRun 209 0 [some (.ref 170), some (.int 101)] [] (zk B im lm)) := ze_call (ok := true) rfl 3 rfl rfl rfl
theorem d_211_46 {B : zeB} {im : Nat → Nat → Int32} {lm : Nat → Nat → Int64} (l1 : Int32) (o2 : Option Value) (o3 : Option Value)  : zeRun 211 46 [some (.ref 170), some (.int l1), o2, o3] [] (zk B im lm) = zeBh 211 52 [some (.ref 170), some (.int l1), o2, o3] [] (zeRun 209 0 [some (.ref 170), some (.int 32)] [] (zk B im lm)) := ze_call (ok := true) rfl 3 rfl rfl rfl
theorem d_211_52 {B : zeB} {im : Nat → Nat → Int32} {lm : Nat → Nat → Int64} (l1 : Int32) (o2 : Option Value) (o3 : Option Value)  : zeRun 211 52 [some (.ref 170), some (.int l1), o2, o3] [] (zk B im lm) = zeBh 211 62 [some (.ref 170), some (.int l1), o2, o3] [] (zeRun 210 0 [some (.ref 170), some (.int (im 171 0)), none, none] [] (zk B im lm)) := ze_call (ok := true) rfl 6 rfl rfl rfl
theorem d_211_62 {B : zeB} {im : Nat → Nat → Int32} {lm : Nat → Nat → Int64} (l1 : Int32) (o2 : Option Value) (o3 : Option Value)  : zeRun 211 62 [some (.ref 170), some (.int l1), o2, o3] [] (zk B im lm) = zeRun 211 64 [some (.ref 170), some (.int l1), some (.int 0), o3] [] (zk B im lm) := ze_go (ok := true) rfl 2 rfl rfl
theorem d_211_4 {B : zeB} {im : Nat → Nat → Int32} {lm : Nat → Nat → Int64} (o0 : Option Value) (o1 : Option Value) (o2 : Option Value) (o3 : Option Value)  : zeRun 211 4 [o0, o1, o2, o3] [] (zk B im lm) = some (some (.int (-10000002)), (zk B im lm)) := ze_ret (ok := true) rfl 2 rfl rfl
theorem d_211_64 {B : zeB} {im : Nat → Nat → Int32} {lm : Nat → Nat → Int64} (l1 : Int32) (l2 : Int32) (o3 : Option Value)  : zeRun 211 64 [some (.ref 170), some (.int l1), some (.int l2), o3] [] (zk B im lm) = if (im 171 1) ≤ l2 then zeRun 211 125 [some (.ref 170), some (.int l1), some (.int l2), o3] [] (zk B im lm) else zeRun 211 74 [some (.ref 170), some (.int l1), some (.int l2), o3] [] (zk B im lm) := ze_if (ok := true) rfl 6 rfl rfl
theorem d_211_125 {B : zeB} {im : Nat → Nat → Int32} {lm : Nat → Nat → Int64} (l1 : Int32) (o2 : Option Value) (o3 : Option Value)  : zeRun 211 125 [some (.ref 170), some (.int l1), o2, o3] [] (zk B im lm) = if (im 170 20) ≤ l1 then zeRun 211 142 [some (.ref 170), some (.int l1), o2, o3] [] (zk B im lm) else zeRun 211 133 [some (.ref 170), some (.int l1), o2, o3] [] (zk B im lm) := ze_if (ok := true) rfl 4 rfl rfl
theorem d_211_142 {B : zeB} {im : Nat → Nat → Int32} {lm : Nat → Nat → Int64} (o0 : Option Value) (o1 : Option Value) (o2 : Option Value) (o3 : Option Value)  : zeRun 211 142 [o0, o1, o2, o3] [] (zk B im lm) = some (some (.int (-10000005)), (zk B im lm)) := ze_ret (ok := true) rfl 2 rfl rfl
theorem d_211_133 {B : zeB} {im : Nat → Nat → Int32} {lm : Nat → Nat → Int64} (l1 : Int32) (o2 : Option Value) (o3 : Option Value) (c0 : zeInb l1 160 = true) : zeRun 211 133 [some (.ref 170), some (.int l1), o2, o3] [] (zk B im lm) = some (some (.int (im 186 (Int32.toNatClampNeg l1))), (zk B im lm)) := ze_ret (ok := (zeInb l1 160 && true)) rfl 6 rfl (zeA2 c0 rfl)
theorem d_211_74 {B : zeB} {im : Nat → Nat → Int32} {lm : Nat → Nat → Int64} (l1 : Int32) (l2 : Int32) (o3 : Option Value)  : zeRun 211 74 [some (.ref 170), some (.int l1), some (.int l2), o3] [] (zk B im lm) = zeBh 211 79 [some (.ref 170), some (.int l1), some (.int l2), o3] [] (zeRun 164 0 [some (.ref 170), some (.int l2), none, none] [] (zk B im lm)) := ze_call (ok := true) rfl 3 rfl rfl rfl
theorem d_211_79 {B : zeB} {im : Nat → Nat → Int32} {lm : Nat → Nat → Int64} (l1 : Int32) (l2 : Int32) (o3 : Option Value) (s0 : Int32)  : zeRun 211 79 [some (.ref 170), some (.int l1), some (.int l2), o3] [.int s0] (zk B im lm) = zeBh 211 86 [some (.ref 170), some (.int l1), some (.int l2), some (.int s0)] [] (zeRun 209 0 [some (.ref 170), some (.int 59)] [] (zk B im lm)) := ze_call (ok := true) rfl 4 rfl rfl rfl
theorem d_211_86 {B : zeB} {im : Nat → Nat → Int32} {lm : Nat → Nat → Int64} (l1 : Int32) (l2 : Int32) (l3 : Int32)  : zeRun 211 86 [some (.ref 170), some (.int l1), some (.int l2), some (.int l3)] [] (zk B im lm) = zeBh 211 92 [some (.ref 170), some (.int l1), some (.int l2), some (.int l3)] [] (zeRun 209 0 [some (.ref 170), some (.int 32)] [] (zk B im lm)) := ze_call (ok := true) rfl 3 rfl rfl rfl
theorem d_211_92 {B : zeB} {im : Nat → Nat → Int32} {lm : Nat → Nat → Int64} (l1 : Int32) (l2 : Int32) (l3 : Int32)  : zeRun 211 92 [some (.ref 170), some (.int l1), some (.int l2), some (.int l3)] [] (zk B im lm) = zeBh 211 98 [some (.ref 170), some (.int l1), some (.int l2), some (.int l3)] [] (zeRun 209 0 [some (.ref 170), some (.int 112)] [] (zk B im lm)) := ze_call (ok := true) rfl 3 rfl rfl rfl
theorem d_211_98 {B : zeB} {im : Nat → Nat → Int32} {lm : Nat → Nat → Int64} (l1 : Int32) (l2 : Int32) (l3 : Int32)  : zeRun 211 98 [some (.ref 170), some (.int l1), some (.int l2), some (.int l3)] [] (zk B im lm) = zeBh 211 103 [some (.ref 170), some (.int l1), some (.int l2), some (.int l3)] [] (zeRun 210 0 [some (.ref 170), some (.int l3), none, none] [] (zk B im lm)) := ze_call (ok := true) rfl 3 rfl rfl rfl
theorem d_211_103 {B : zeB} {im : Nat → Nat → Int32} {lm : Nat → Nat → Int64} (l1 : Int32) (l2 : Int32) (l3 : Int32)  : zeRun 211 103 [some (.ref 170), some (.int l1), some (.int l2), some (.int l3)] [] (zk B im lm) = zeBh 211 109 [some (.ref 170), some (.int l1), some (.int l2), some (.int l3)] [] (zeRun 209 0 [some (.ref 170), some (.int 32)] [] (zk B im lm)) := ze_call (ok := true) rfl 3 rfl rfl rfl
theorem d_211_109 {B : zeB} {im : Nat → Nat → Int32} {lm : Nat → Nat → Int64} (l1 : Int32) (l2 : Int32) (l3 : Int32) (c0 : zeInb l3 6 = true) : zeRun 211 109 [some (.ref 170), some (.int l1), some (.int l2), some (.int l3)] [] (zk B im lm) = zeBh 211 119 [some (.ref 170), some (.int l1), some (.int l2), some (.int l3)] [] (zeRun 210 0 [some (.ref 170), some (.int (im 175 (Int32.toNatClampNeg l3))), none, none] [] (zk B im lm)) := ze_call (ok := (zeInb l3 6 && true)) rfl 6 rfl rfl (zeA2 c0 rfl)
theorem d_211_119 {B : zeB} {im : Nat → Nat → Int32} {lm : Nat → Nat → Int64} (l1 : Int32) (l2 : Int32) (o3 : Option Value)  : zeRun 211 119 [some (.ref 170), some (.int l1), some (.int l2), o3] [] (zk B im lm) = zeRun 211 64 [some (.ref 170), some (.int l1), some (.int (l2 + 1)), o3] [] (zk B im lm) := ze_go (ok := true) rfl 2 rfl rfl
def F_211_64  : Nat → Int32 → Int32 → zI → zJ → zR
  | 0, _, _, _, _ => none
  | n + 1, l1, l2, im, lm =>
    if (im 171 1) ≤ l2 then
      zCk (if (im 170 20) ≤ l1 then true else zeInb l1 160) <|
      some (if (im 170 20) ≤ l1 then (-10000005) else (im 186 (Int32.toNatClampNeg l1)), im, lm)
    else
      zBd (m_164 l2 im lm) fun v1 im1 lm1 =>
      zBd (m_209 59 im1 lm1) fun _ im2 lm2 =>
      zBd (m_209 32 im2 lm2) fun _ im3 lm3 =>
      zBd (m_209 112 im3 lm3) fun _ im4 lm4 =>
      zBd (m_210 v1 im4 lm4) fun _ im5 lm5 =>
      zBd (m_209 32 im5 lm5) fun _ im6 lm6 =>
      zCk (zeInb v1 6) <|
      zBd (m_210 (im6 175 (Int32.toNatClampNeg v1)) im6 lm6) fun _ im7 lm7 =>
      F_211_64  n l1 (l2 + 1) im7 lm7
theorem F_211_64_ok {B : zeB} : ∀ (n : Nat) (l1 : Int32) (l2 : Int32) (o3 : Option Value) (im : zI) (lm : zJ), zL B 1 (F_211_64  n l1 l2 im lm) (zeRun 211 64 [some (.ref 170), some (.int l1), some (.int l2), o3] [] (zk B im lm)) := by
  intro n
  induction n with
  | zero => intros; exact zL_none
  | succ n ih =>
    intro l1 l2 o3 im lm
    unfold F_211_64
    refine zL_if (d_211_64 _ _ _) (fun h => ?_) (fun h => ?_)
    · skip
      refine zL_ifm (d_211_125 _ _ _) (fun h => ?_) (fun h => ?_)
      · repeat rw [if_pos h]
        refine zL_ckt ?_
        exact zL_ret (d_211_142 _ _ _ _)
      · repeat rw [if_neg h]
        refine zL_ck fun c1 => ?_
        exact zL_ret (d_211_133 _ _ _ c1)
    · skip
      refine zL_bd (d_211_74 _ _ _) (m_164_ok _ _ _) fun v1 im1 lm1 => ?_
      refine zL_bdv (d_211_79 _ _ _ _) (m_209_ok _ _ _) fun _ im2 lm2 => ?_
      refine zL_bdv (d_211_86 _ _ _) (m_209_ok _ _ _) fun _ im3 lm3 => ?_
      refine zL_bdv (d_211_92 _ _ _) (m_209_ok _ _ _) fun _ im4 lm4 => ?_
      refine zL_bdv (d_211_98 _ _ _) (m_210_ok _ _ _) fun _ im5 lm5 => ?_
      refine zL_bdv (d_211_103 _ _ _) (m_209_ok _ _ _) fun _ im6 lm6 => ?_
      refine zL_ck fun c2 => ?_
      refine zL_bdv (d_211_109 _ _ _ c2) (m_210_ok _ _ _) fun _ im7 lm7 => ?_
      refine zL_eq (d_211_119 _ _ _) ?_
      exact ih _ _ _ _ _
def m_211 (l1 : Int32) (im : zI) (lm : zJ) : zR :=
    if 0 ≤ l1 then
      zBd (m_47  im lm) fun _ im1 lm1 =>
      zBd (m_209 112 (zeU2 im1 170 20 0) lm1) fun _ im2 lm2 =>
      zBd (m_209 104 im2 lm2) fun _ im3 lm3 =>
      zBd (m_209 97 im3 lm3) fun _ im4 lm4 =>
      zBd (m_209 115 im4 lm4) fun _ im5 lm5 =>
      zBd (m_209 101 im5 lm5) fun _ im6 lm6 =>
      zBd (m_209 32 im6 lm6) fun _ im7 lm7 =>
      zBd (m_210 (im7 171 0) im7 lm7) fun _ im8 lm8 =>
      F_211_64  2000 l1 0 im8 lm8
    else
      some ((-10000002), im, lm)
theorem m_211_ok {B : zeB} (l1 : Int32) (im : zI) (lm : zJ) : zL B 1 (m_211 l1 im lm) (zeRun 211 0 [some (.ref 170), some (.int l1), none, none] [] (zk B im lm)) := by
  unfold m_211
  refine zL_if (d_211_0 _ _ _) (fun h => ?_) (fun h => ?_)
  · skip
    refine zL_bdv (d_211_7 _ _ _) (m_47_ok _ _) fun _ im1 lm1 => ?_
    refine zL_bdv (d_211_11 _ _ _) (m_209_ok _ _ _) fun _ im2 lm2 => ?_
    refine zL_bdv (d_211_22 _ _ _) (m_209_ok _ _ _) fun _ im3 lm3 => ?_
    refine zL_bdv (d_211_28 _ _ _) (m_209_ok _ _ _) fun _ im4 lm4 => ?_
    refine zL_bdv (d_211_34 _ _ _) (m_209_ok _ _ _) fun _ im5 lm5 => ?_
    refine zL_bdv (d_211_40 _ _ _) (m_209_ok _ _ _) fun _ im6 lm6 => ?_
    refine zL_bdv (d_211_46 _ _ _) (m_209_ok _ _ _) fun _ im7 lm7 => ?_
    refine zL_bdv (d_211_52 _ _ _) (m_210_ok _ _ _) fun _ im8 lm8 => ?_
    refine zL_eq (d_211_62 _ _ _) ?_
    exact F_211_64_ok  _ _ _ _ _ _
  · skip
    exact zL_ret (d_211_4 _ _ _ _)
