/-! pure: X8_clue, X7_entry, X8_entry, X7_isClueUnderWay, X7_leaders, X7_sumOfScores, X7_count -/
/-! X8_clue -/
theorem d_171_0 {B : zeB} {im : Nat → Nat → Int32} {lm : Nat → Nat → Int64} (l1 : Int32) (l2 : Int32) (o3 : Option Value) (o4 : Option Value) (o5 : Option Value)  : zeRun 171 0 [some (.ref 170), some (.int l1), some (.int l2), o3, o4, o5] [] (zk B im lm) = zeBh 171 7 [some (.ref 170), some (.int l1), some (.int l2), o3, o4, o5] [] (zeRun 32 0 [some (.int l1), some (.int 0), some (.int 24)] [] (zk B im lm)) := ze_call (ok := true) rfl 4 rfl rfl rfl
theorem d_171_7 {B : zeB} {im : Nat → Nat → Int32} {lm : Nat → Nat → Int64} (l1 : Int32) (l2 : Int32) (o3 : Option Value) (o4 : Option Value) (o5 : Option Value) (s0 : Int32)  : zeRun 171 7 [some (.ref 170), some (.int l1), some (.int l2), o3, o4, o5] [.int s0] (zk B im lm) = if s0 = 0 then zeRun 171 10 [some (.ref 170), some (.int l1), some (.int l2), o3, o4, o5] [] (zk B im lm) else zeRun 171 13 [some (.ref 170), some (.int l1), some (.int l2), o3, o4, o5] [] (zk B im lm) := ze_if (ok := true) rfl 1 rfl rfl
theorem d_171_10 {B : zeB} {im : Nat → Nat → Int32} {lm : Nat → Nat → Int64} (o0 : Option Value) (o1 : Option Value) (o2 : Option Value) (o3 : Option Value) (o4 : Option Value) (o5 : Option Value)  : zeRun 171 10 [o0, o1, o2, o3, o4, o5] [] (zk B im lm) = some (some (.int (-10000001)), (zk B im lm)) := ze_ret (ok := true) rfl 2 rfl rfl
theorem d_171_13 {B : zeB} {im : Nat → Nat → Int32} {lm : Nat → Nat → Int64} (l1 : Int32) (l2 : Int32) (o3 : Option Value) (o4 : Option Value) (o5 : Option Value)  : zeRun 171 13 [some (.ref 170), some (.int l1), some (.int l2), o3, o4, o5] [] (zk B im lm) = zeBh 171 17 [some (.ref 170), some (.int l1), some (.int l2), o3, o4, o5] [] (zeRun 47 0 [some (.ref 170), none, none, none, none, none, none] [] (zk B im lm)) := ze_call (ok := true) rfl 2 rfl rfl rfl
theorem d_171_17 {B : zeB} {im : Nat → Nat → Int32} {lm : Nat → Nat → Int64} (l1 : Int32) (l2 : Int32) (o3 : Option Value) (o4 : Option Value) (o5 : Option Value)  : zeRun 171 17 [some (.ref 170), some (.int l1), some (.int l2), o3, o4, o5] [] (zk B im lm) = zeRun 171 26 [some (.ref 170), some (.int l1), some (.int l2), some (.int 0), some (.int (-10000005)), some (.int 0)] [] (zk B im lm) := ze_go (ok := true) rfl 6 rfl rfl
theorem d_171_26 {B : zeB} {im : Nat → Nat → Int32} {lm : Nat → Nat → Int64} (l1 : Int32) (l2 : Int32) (l3 : Int32) (l4 : Int32) (l5 : Int32)  : zeRun 171 26 [some (.ref 170), some (.int l1), some (.int l2), some (.int l3), some (.int l4), some (.int l5)] [] (zk B im lm) = if (im 171 5) ≤ l5 then zeRun 171 114 [some (.ref 170), some (.int l1), some (.int l2), some (.int l3), some (.int l4), some (.int l5)] [] (zk B im lm) else zeRun 171 37 [some (.ref 170), some (.int l1), some (.int l2), some (.int l3), some (.int l4), some (.int l5)] [] (zk B im lm) := ze_if (ok := true) rfl 6 rfl rfl
theorem d_171_114 {B : zeB} {im : Nat → Nat → Int32} {lm : Nat → Nat → Int64} (l1 : Int32) (l2 : Int32) (l3 : Int32) (l4 : Int32) (o5 : Option Value)  : zeRun 171 114 [some (.ref 170), some (.int l1), some (.int l2), some (.int l3), some (.int l4), o5] [] (zk B im lm) = zeRun 171 (zeSw l2 182 [(0, 148), (1, 153), (2, 165), (3, 177), (4, 179)]) [some (.ref 170), some (.int l1), some (.int l2), some (.int l3), some (.int l4), o5] [] (zk B im lm) := ze_go (ok := true) rfl 2 rfl rfl
theorem d_171_148 {B : zeB} {im : Nat → Nat → Int32} {lm : Nat → Nat → Int64} (o0 : Option Value) (l1 : Int32) (o2 : Option Value) (o3 : Option Value) (o4 : Option Value) (o5 : Option Value)  : zeRun 171 148 [o0, some (.int l1), o2, o3, o4, o5] [] (zk B im lm) = zeBh 171 152 [o0, some (.int l1), o2, o3, o4, o5] [] (zeRun 49 0 [some (.int l1)] [] (zk B im lm)) := ze_call (ok := true) rfl 2 rfl rfl rfl
theorem d_171_152 {B : zeB} {im : Nat → Nat → Int32} {lm : Nat → Nat → Int64} (o0 : Option Value) (o1 : Option Value) (o2 : Option Value) (o3 : Option Value) (o4 : Option Value) (o5 : Option Value) (s0 : Int32)  : zeRun 171 152 [o0, o1, o2, o3, o4, o5] [.int s0] (zk B im lm) = some (some (.int s0), (zk B im lm)) := ze_ret (ok := true) rfl 1 rfl rfl
theorem d_171_153 {B : zeB} {im : Nat → Nat → Int32} {lm : Nat → Nat → Int64} (l1 : Int32) (o2 : Option Value) (o3 : Option Value) (o4 : Option Value) (o5 : Option Value)  : zeRun 171 153 [some (.ref 170), some (.int l1), o2, o3, o4, o5] [] (zk B im lm) = some (some (.int (((im 171 11) >>> (l1 &&& 31)) &&& 1)), (zk B im lm)) := ze_ret (ok := true) rfl 9 rfl rfl
theorem d_171_165 {B : zeB} {im : Nat → Nat → Int32} {lm : Nat → Nat → Int64} (l1 : Int32) (o2 : Option Value) (o3 : Option Value) (o4 : Option Value) (o5 : Option Value)  : zeRun 171 165 [some (.ref 170), some (.int l1), o2, o3, o4, o5] [] (zk B im lm) = some (some (.int (((im 171 10) >>> (l1 &&& 31)) &&& 1)), (zk B im lm)) := ze_ret (ok := true) rfl 9 rfl rfl
theorem d_171_177 {B : zeB} {im : Nat → Nat → Int32} {lm : Nat → Nat → Int64} (o0 : Option Value) (o1 : Option Value) (o2 : Option Value) (l3 : Int32) (o4 : Option Value) (o5 : Option Value)  : zeRun 171 177 [o0, o1, o2, some (.int l3), o4, o5] [] (zk B im lm) = some (some (.int l3), (zk B im lm)) := ze_ret (ok := true) rfl 2 rfl rfl
theorem d_171_179 {B : zeB} {im : Nat → Nat → Int32} {lm : Nat → Nat → Int64} (o0 : Option Value) (o1 : Option Value) (o2 : Option Value) (o3 : Option Value) (l4 : Int32) (o5 : Option Value)  : zeRun 171 179 [o0, o1, o2, o3, some (.int l4), o5] [] (zk B im lm) = some (some (.int l4), (zk B im lm)) := ze_ret (ok := true) rfl 2 rfl rfl
theorem d_171_182 {B : zeB} {im : Nat → Nat → Int32} {lm : Nat → Nat → Int64} (o0 : Option Value) (o1 : Option Value) (o2 : Option Value) (o3 : Option Value) (o4 : Option Value) (o5 : Option Value)  : zeRun 171 182 [o0, o1, o2, o3, o4, o5] [] (zk B im lm) = some (some (.int (-10000002)), (zk B im lm)) := ze_ret (ok := true) rfl 2 rfl rfl
theorem d_171_37 {B : zeB} {im : Nat → Nat → Int32} {lm : Nat → Nat → Int64} (l1 : Int32) (l2 : Int32) (l3 : Int32) (l4 : Int32) (l5 : Int32)  : zeRun 171 37 [some (.ref 170), some (.int l1), some (.int l2), some (.int l3), some (.int l4), some (.int l5)] [] (zk B im lm) = zeBh 171 45 [some (.ref 170), some (.int l1), some (.int l2), some (.int l3), some (.int l4), some (.int l5)] [.int l3] (zeRun 170 0 [some (.ref 170), some (.int l5), some (.int l1)] [] (zk B im lm)) := ze_call (ok := true) rfl 5 rfl rfl rfl
theorem d_171_45 {B : zeB} {im : Nat → Nat → Int32} {lm : Nat → Nat → Int64} (l1 : Int32) (l2 : Int32) (o3 : Option Value) (l4 : Int32) (l5 : Int32) (s0 : Int32) (s1 : Int32)  : zeRun 171 45 [some (.ref 170), some (.int l1), some (.int l2), o3, some (.int l4), some (.int l5)] [.int s1, .int s0] (zk B im lm) = if s1 = 0 then zeRun 171 52 [some (.ref 170), some (.int l1), some (.int l2), o3, some (.int l4), some (.int l5)] [.int s0] (zk B im lm) else zeRun 171 48 [some (.ref 170), some (.int l1), some (.int l2), o3, some (.int l4), some (.int l5)] [.int s0] (zk B im lm) := ze_if (ok := true) rfl 1 rfl rfl
theorem d_171_52 {B : zeB} {im : Nat → Nat → Int32} {lm : Nat → Nat → Int64} (l1 : Int32) (l2 : Int32) (o3 : Option Value) (l4 : Int32) (l5 : Int32) (s0 : Int32)  : zeRun 171 52 [some (.ref 170), some (.int l1), some (.int l2), o3, some (.int l4), some (.int l5)] [.int s0] (zk B im lm) = zeRun 171 53 [some (.ref 170), some (.int l1), some (.int l2), o3, some (.int l4), some (.int l5)] [.int 0, .int s0] (zk B im lm) := ze_go (ok := true) rfl 1 rfl rfl
theorem d_171_48 {B : zeB} {im : Nat → Nat → Int32} {lm : Nat → Nat → Int64} (l1 : Int32) (l2 : Int32) (o3 : Option Value) (l4 : Int32) (l5 : Int32) (s0 : Int32)  : zeRun 171 48 [some (.ref 170), some (.int l1), some (.int l2), o3, some (.int l4), some (.int l5)] [.int s0] (zk B im lm) = zeRun 171 53 [some (.ref 170), some (.int l1), some (.int l2), o3, some (.int l4), some (.int l5)] [.int 1, .int s0] (zk B im lm) := ze_go (ok := true) rfl 2 rfl rfl
theorem d_171_53 {B : zeB} {im : Nat → Nat → Int32} {lm : Nat → Nat → Int64} (l1 : Int32) (l2 : Int32) (o3 : Option Value) (l4 : Int32) (l5 : Int32) (s0 : Int32) (s1 : Int32)  : zeRun 171 53 [some (.ref 170), some (.int l1), some (.int l2), o3, some (.int l4), some (.int l5)] [.int s1, .int s0] (zk B im lm) = zeBh 171 62 [some (.ref 170), some (.int l1), some (.int l2), some (.int (s0 + s1)), some (.int l4), some (.int l5)] [] (zeRun 170 0 [some (.ref 170), some (.int l5), some (.int l1)] [] (zk B im lm)) := ze_call (ok := true) rfl 6 rfl rfl rfl
theorem d_171_62 {B : zeB} {im : Nat → Nat → Int32} {lm : Nat → Nat → Int64} (l1 : Int32) (l2 : Int32) (l3 : Int32) (l4 : Int32) (l5 : Int32) (s0 : Int32)  : zeRun 171 62 [some (.ref 170), some (.int l1), some (.int l2), some (.int l3), some (.int l4), some (.int l5)] [.int s0] (zk B im lm) = if s0 = 0 then zeRun 171 104 [some (.ref 170), some (.int l1), some (.int l2), some (.int l3), some (.int l4), some (.int l5)] [] (zk B im lm) else zeRun 171 65 [some (.ref 170), some (.int l1), some (.int l2), some (.int l3), some (.int l4), some (.int l5)] [] (zk B im lm) := ze_if (ok := true) rfl 1 rfl rfl
theorem d_171_104 {B : zeB} {im : Nat → Nat → Int32} {lm : Nat → Nat → Int64} (l1 : Int32) (l2 : Int32) (l3 : Int32) (l4 : Int32) (l5 : Int32)  : zeRun 171 104 [some (.ref 170), some (.int l1), some (.int l2), some (.int l3), some (.int l4), some (.int l5)] [] (zk B im lm) = zeRun 171 26 [some (.ref 170), some (.int l1), some (.int l2), some (.int l3), some (.int l4), some (.int (l5 + 1))] [] (zk B im lm) := ze_go (ok := true) rfl 4 rfl rfl
theorem d_171_65 {B : zeB} {im : Nat → Nat → Int32} {lm : Nat → Nat → Int64} (l1 : Int32) (l2 : Int32) (l3 : Int32) (l4 : Int32) (l5 : Int32)  : zeRun 171 65 [some (.ref 170), some (.int l1), some (.int l2), some (.int l3), some (.int l4), some (.int l5)] [] (zk B im lm) = zeBh 171 74 [some (.ref 170), some (.int l1), some (.int l2), some (.int l3), some (.int l4), some (.int l5)] [.ref 171] (zeRun 45 0 [some (.int l5)] [] (zk B im lm)) := ze_call (ok := true) rfl 4 rfl rfl rfl
theorem d_171_74 {B : zeB} {im : Nat → Nat → Int32} {lm : Nat → Nat → Int64} (l1 : Int32) (l2 : Int32) (l3 : Int32) (l4 : Int32) (l5 : Int32) (s1 : Int32) (c0 : zeInb (s1 + 4) 360 = true) : zeRun 171 74 [some (.ref 170), some (.int l1), some (.int l2), some (.int l3), some (.int l4), some (.int l5)] [.int s1, .ref 171] (zk B im lm) = if (im 171 (Int32.toNatClampNeg (s1 + 4))) = 1 then zeRun 171 81 [some (.ref 170), some (.int l1), some (.int l2), some (.int l3), some (.int l4), some (.int l5)] [] (zk B im lm) else zeRun 171 104 [some (.ref 170), some (.int l1), some (.int l2), some (.int l3), some (.int l4), some (.int l5)] [] (zk B im lm) := ze_if (ok := (zeInb (s1 + 4) 360 && true)) rfl 5 rfl (zeA2 c0 rfl)
theorem d_171_81 {B : zeB} {im : Nat → Nat → Int32} {lm : Nat → Nat → Int64} (l1 : Int32) (l2 : Int32) (l3 : Int32) (l4 : Int32) (l5 : Int32) (c0 : zeInb l5 60 = true) : zeRun 171 81 [some (.ref 170), some (.int l1), some (.int l2), some (.int l3), some (.int l4), some (.int l5)] [] (zk B im lm) = if (im 177 (Int32.toNatClampNeg l5)) = 0 then zeRun 171 91 [some (.ref 170), some (.int l1), some (.int l2), some (.int l3), some (.int l4), some (.int l5)] [] (zk B im lm) else zeRun 171 104 [some (.ref 170), some (.int l1), some (.int l2), some (.int l3), some (.int l4), some (.int l5)] [] (zk B im lm) := ze_if (ok := (zeInb l5 60 && true)) rfl 5 rfl (zeA2 c0 rfl)
theorem d_171_91 {B : zeB} {im : Nat → Nat → Int32} {lm : Nat → Nat → Int64} (l1 : Int32) (l2 : Int32) (l3 : Int32) (o4 : Option Value) (l5 : Int32)  : zeRun 171 91 [some (.ref 170), some (.int l1), some (.int l2), some (.int l3), o4, some (.int l5)] [] (zk B im lm) = zeBh 171 100 [some (.ref 170), some (.int l1), some (.int l2), some (.int l3), o4, some (.int l5)] [.ref 171] (zeRun 45 0 [some (.int l5)] [] (zk B im lm)) := ze_call (ok := true) rfl 4 rfl rfl rfl
theorem d_171_100 {B : zeB} {im : Nat → Nat → Int32} {lm : Nat → Nat → Int64} (l1 : Int32) (l2 : Int32) (l3 : Int32) (o4 : Option Value) (l5 : Int32) (s1 : Int32) (c0 : zeInb s1 360 = true) : zeRun 171 100 [some (.ref 170), some (.int l1), some (.int l2), some (.int l3), o4, some (.int l5)] [.int s1, .ref 171] (zk B im lm) = zeRun 171 26 [some (.ref 170), some (.int l1), some (.int l2), some (.int l3), some (.int (im 171 (Int32.toNatClampNeg s1))), some (.int (l5 + 1))] [] (zk B im lm) := ze_go (ok := (zeInb s1 360 && true)) rfl 5 rfl (zeA2 c0 rfl)
def J_171_53 (K26 : Int32 → Int32 → Int32 → Int32 → Int32 → zI → zJ → zR) (l1 : Int32) (l2 : Int32) (l4 : Int32) (l5 : Int32) (s0 : Int32) (s1 : Int32) (im : zI) (lm : zJ) : zR :=
    zBd (m_170 l5 l1 im lm) fun v1 im1 lm1 =>
    zCk (if v1 = 0 then true else zeInb (((60 + (5 * l5)) : Int32) + 4) 360) <|
    zCk (if v1 = 0 then true else if (im1 171 (Int32.toNatClampNeg (((60 + (5 * l5)) : Int32) + 4))) = 1 then zeInb l5 60 else true) <|
    zCk (if v1 = 0 then true else if (im1 171 (Int32.toNatClampNeg (((60 + (5 * l5)) : Int32) + 4))) = 1 then if (im1 177 (Int32.toNatClampNeg l5)) = 0 then zeInb ((60 + (5 * l5)) : Int32) 360 else true else true) <|
    K26 l1 l2 (s0 + s1) (if v1 = 0 then l4 else if (im1 171 (Int32.toNatClampNeg (((60 + (5 * l5)) : Int32) + 4))) = 1 then if (im1 177 (Int32.toNatClampNeg l5)) = 0 then (im1 171 (Int32.toNatClampNeg ((60 + (5 * l5)) : Int32))) else l4 else l4) (l5 + 1) im1 lm1
theorem J_171_53_ok {B : zeB} (K26 : Int32 → Int32 → Int32 → Int32 → Int32 → zI → zJ → zR) (hK26 : ∀ (l1 : Int32) (l2 : Int32) (l3 : Int32) (l4 : Int32) (l5 : Int32)  (im : zI) (lm : zJ), zL B 1 (K26 l1 l2 l3 l4 l5 im lm) (zeRun 171 26 [some (.ref 170), some (.int l1), some (.int l2), some (.int l3), some (.int l4), some (.int l5)] [] (zk B im lm))) (l1 : Int32) (l2 : Int32) (l4 : Int32) (l5 : Int32) (s0 : Int32) (s1 : Int32) (o3 : Option Value) (im : zI) (lm : zJ) : zL B 1 (J_171_53 K26 l1 l2 l4 l5 s0 s1 im lm) (zeRun 171 53 [some (.ref 170), some (.int l1), some (.int l2), o3, some (.int l4), some (.int l5)] [.int s1, .int s0] (zk B im lm)) := by
  unfold J_171_53
  refine zL_bd (d_171_53 _ _ _ _ _ _ _) (m_170_ok _ _ _ _) fun v1 im1 lm1 => ?_
  refine zL_ifm (d_171_62 _ _ _ _ _ _) (fun h => ?_) (fun h => ?_)
  · repeat rw [if_pos h]
    refine zL_eq (d_171_104 _ _ _ _ _) ?_
    refine zL_ckt ?_
    refine zL_ckt ?_
    refine zL_ckt ?_
    exact hK26 _ _ _ _ _ _ _
  · repeat rw [if_neg h]
    refine zL_bdp (e := ((60 + (5 * l5)) : Int32)) (d_171_65 _ _ _ _ _) (m_45_ok _ _ _) ?_
    refine zL_ck fun c1 => ?_
    refine zL_ifm (d_171_74 _ _ _ _ _ _ c1) (fun h => ?_) (fun h => ?_)
    · repeat rw [if_pos h]
      refine zL_ck fun c2 => ?_
      refine zL_ifm (d_171_81 _ _ _ _ _ c2) (fun h => ?_) (fun h => ?_)
      · repeat rw [if_pos h]
        refine zL_bdp (e := ((60 + (5 * l5)) : Int32)) (d_171_91 _ _ _ _ _) (m_45_ok _ _ _) ?_
        refine zL_ck fun c3 => ?_
        refine zL_eq (d_171_100 _ _ _ _ _ _ c3) ?_
        exact hK26 _ _ _ _ _ _ _
      · repeat rw [if_neg h]
        refine zL_eq (d_171_104 _ _ _ _ _) ?_
        refine zL_ckt ?_
        exact hK26 _ _ _ _ _ _ _
    · repeat rw [if_neg h]
      refine zL_eq (d_171_104 _ _ _ _ _) ?_
      refine zL_ckt ?_
      refine zL_ckt ?_
      exact hK26 _ _ _ _ _ _ _
def F_171_26  : Nat → Int32 → Int32 → Int32 → Int32 → Int32 → zI → zJ → zR
  | 0, _, _, _, _, _, _, _ => none
  | n + 1, l1, l2, l3, l4, l5, im, lm =>
    if (im 171 5) ≤ l5 then
      some (if l2 = 0 then ((100 * ((l1 / 5) + 1)) : Int32) else if l2 = 1 then (((im 171 11) >>> (l1 &&& 31)) &&& 1) else if l2 = 2 then (((im 171 10) >>> (l1 &&& 31)) &&& 1) else if l2 = 3 then l3 else if l2 = 4 then l4 else (-10000002), im, lm)
    else
      zBd (m_170 l5 l1 im lm) fun v2 im2 lm2 =>
      J_171_53 (F_171_26  n)  l1 l2 l4 l5 l3 (if v2 = 0 then 0 else 1) im2 lm2
theorem F_171_26_ok {B : zeB} : ∀ (n : Nat) (l1 : Int32) (l2 : Int32) (l3 : Int32) (l4 : Int32) (l5 : Int32)  (im : zI) (lm : zJ), zL B 1 (F_171_26  n l1 l2 l3 l4 l5 im lm) (zeRun 171 26 [some (.ref 170), some (.int l1), some (.int l2), some (.int l3), some (.int l4), some (.int l5)] [] (zk B im lm)) := by
  intro n
  induction n with
  | zero => intros; exact zL_none
  | succ n ih =>
    intro l1 l2 l3 l4 l5 im lm
    unfold F_171_26
    refine zL_if (d_171_26 _ _ _ _ _) (fun h => ?_) (fun h => ?_)
    · skip
      refine zL_eq (d_171_114 _ _ _ _ _) ?_
      refine zL_swm (fun h => ?_) (fun h => ?_)
      · repeat rw [if_pos h]
        refine zL_bdp (e := ((100 * ((l1 / 5) + 1)) : Int32)) (d_171_148 _ _ _ _ _ _) (m_49_ok _ _ _) ?_
        exact zL_ret (d_171_152 _ _ _ _ _ _ _)
      repeat rw [if_neg h]
      refine zL_swm (fun h => ?_) (fun h => ?_)
      · repeat rw [if_pos h]
        exact zL_ret (d_171_153 _ _ _ _ _)
      repeat rw [if_neg h]
      refine zL_swm (fun h => ?_) (fun h => ?_)
      · repeat rw [if_pos h]
        exact zL_ret (d_171_165 _ _ _ _ _)
      repeat rw [if_neg h]
      refine zL_swm (fun h => ?_) (fun h => ?_)
      · repeat rw [if_pos h]
        exact zL_ret (d_171_177 _ _ _ _ _ _)
      repeat rw [if_neg h]
      refine zL_swm (fun h => ?_) (fun h => ?_)
      · repeat rw [if_pos h]
        exact zL_ret (d_171_179 _ _ _ _ _ _)
      repeat rw [if_neg h]
      refine zL_swd ?_
      exact zL_ret (d_171_182 _ _ _ _ _ _)
    · skip
      refine zL_bd (d_171_37 _ _ _ _ _) (m_170_ok _ _ _ _) fun v2 im2 lm2 => ?_
      refine zL_ifm (d_171_45 _ _ _ _ _ _ _) (fun h => ?_) (fun h => ?_)
      · repeat rw [if_pos h]
        refine zL_eq (d_171_52 _ _ _ _ _ _) ?_
        exact J_171_53_ok _ ih  _ _ _ _ _ _ _ _ _
      · repeat rw [if_neg h]
        refine zL_eq (d_171_48 _ _ _ _ _ _) ?_
        exact J_171_53_ok _ ih  _ _ _ _ _ _ _ _ _
def m_171 (l1 : Int32) (l2 : Int32) (im : zI) (lm : zJ) : zR :=
    if (if l1 < 0 then 0 else if 24 < l1 then 0 else 1 : Int32) = 0 then
      some ((-10000001), im, lm)
    else
      zBd (m_47  im lm) fun _ im2 lm2 =>
      F_171_26  2000 l1 l2 0 (-10000005) 0 im2 lm2
theorem m_171_ok {B : zeB} (l1 : Int32) (l2 : Int32) (im : zI) (lm : zJ) : zL B 1 (m_171 l1 l2 im lm) (zeRun 171 0 [some (.ref 170), some (.int l1), some (.int l2), none, none, none] [] (zk B im lm)) := by
  unfold m_171
  refine zL_bdp (e := (if l1 < 0 then 0 else if 24 < l1 then 0 else 1 : Int32)) (d_171_0 _ _ _ _ _) (m_32_ok _ _ _ _ _) ?_
  refine zL_if (d_171_7 _ _ _ _ _ _) (fun h => ?_) (fun h => ?_)
  · skip
    exact zL_ret (d_171_10 _ _ _ _ _ _)
  · skip
    refine zL_bdv (d_171_13 _ _ _ _ _) (m_47_ok _ _) fun _ im2 lm2 => ?_
    refine zL_eq (d_171_17 _ _ _ _ _) ?_
    exact F_171_26_ok  _ _ _ _ _ _ _ _
/-! X7_entry -/
theorem d_172_0 {B : zeB} {im : Nat → Nat → Int32} {lm : Nat → Nat → Int64} (l1 : Int32) (l2 : Int32)  : zeRun 172 0 [some (.ref 16), some (.int l1), some (.int l2)] [] (zk B im lm) = zeBh 172 5 [some (.ref 16), some (.int l1), some (.int l2)] [] (zeRun 118 0 [some (.ref 16), some (.int l1)] [] (zk B im lm)) := ze_call (ok := true) rfl 3 rfl rfl rfl
theorem d_172_5 {B : zeB} {im : Nat → Nat → Int32} {lm : Nat → Nat → Int64} (l1 : Int32) (l2 : Int32) (s0 : Int32)  : zeRun 172 5 [some (.ref 16), some (.int l1), some (.int l2)] [.int s0] (zk B im lm) = if s0 = 0 then zeRun 172 8 [some (.ref 16), some (.int l1), some (.int l2)] [] (zk B im lm) else zeRun 172 11 [some (.ref 16), some (.int l1), some (.int l2)] [] (zk B im lm) := ze_if (ok := true) rfl 1 rfl rfl
theorem d_172_8 {B : zeB} {im : Nat → Nat → Int32} {lm : Nat → Nat → Int64} (o0 : Option Value) (o1 : Option Value) (o2 : Option Value)  : zeRun 172 8 [o0, o1, o2] [] (zk B im lm) = some (some (.int (-10000001)), (zk B im lm)) := ze_ret (ok := true) rfl 2 rfl rfl
theorem d_172_11 {B : zeB} {im : Nat → Nat → Int32} {lm : Nat → Nat → Int64} (l1 : Int32) (l2 : Int32)  : zeRun 172 11 [some (.ref 16), some (.int l1), some (.int l2)] [] (zk B im lm) = zeRun 172 (zeSw l2 163 [(0, 60), (1, 73), (2, 86), (3, 99), (4, 112), (5, 122), (6, 135), (7, 145)]) [some (.ref 16), some (.int l1), some (.int l2)] [] (zk B im lm) := ze_go (ok := true) rfl 2 rfl rfl
theorem d_172_60 {B : zeB} {im : Nat → Nat → Int32} {lm : Nat → Nat → Int64} (l1 : Int32) (o2 : Option Value) (c0 : zeInb l1 60 = true) : zeRun 172 60 [some (.ref 16), some (.int l1), o2] [] (zk B im lm) = some (some (.int (im 27 (Int32.toNatClampNeg l1))), (zk B im lm)) := ze_ret (ok := (zeInb l1 60 && true)) rfl 7 rfl (zeA2 c0 rfl)
theorem d_172_73 {B : zeB} {im : Nat → Nat → Int32} {lm : Nat → Nat → Int64} (l1 : Int32) (o2 : Option Value) (c0 : zeInb l1 60 = true) : zeRun 172 73 [some (.ref 16), some (.int l1), o2] [] (zk B im lm) = some (some (.int (im 28 (Int32.toNatClampNeg l1))), (zk B im lm)) := ze_ret (ok := (zeInb l1 60 && true)) rfl 7 rfl (zeA2 c0 rfl)
theorem d_172_86 {B : zeB} {im : Nat → Nat → Int32} {lm : Nat → Nat → Int64} (l1 : Int32) (o2 : Option Value) (c0 : zeInb l1 60 = true) : zeRun 172 86 [some (.ref 16), some (.int l1), o2] [] (zk B im lm) = some (some (.int (im 29 (Int32.toNatClampNeg l1))), (zk B im lm)) := ze_ret (ok := (zeInb l1 60 && true)) rfl 7 rfl (zeA2 c0 rfl)
theorem d_172_99 {B : zeB} {im : Nat → Nat → Int32} {lm : Nat → Nat → Int64} (l1 : Int32) (o2 : Option Value) (c0 : zeInb l1 60 = true) : zeRun 172 99 [some (.ref 16), some (.int l1), o2] [] (zk B im lm) = some (some (.int (im 30 (Int32.toNatClampNeg l1))), (zk B im lm)) := ze_ret (ok := (zeInb l1 60 && true)) rfl 7 rfl (zeA2 c0 rfl)
theorem d_172_112 {B : zeB} {im : Nat → Nat → Int32} {lm : Nat → Nat → Int64} (l1 : Int32) (o2 : Option Value) (c0 : zeInb l1 60 = true) : zeRun 172 112 [some (.ref 16), some (.int l1), o2] [] (zk B im lm) = some (some (.int (im 38 (Int32.toNatClampNeg l1))), (zk B im lm)) := ze_ret (ok := (zeInb l1 60 && true)) rfl 6 rfl (zeA2 c0 rfl)
theorem d_172_122 {B : zeB} {im : Nat → Nat → Int32} {lm : Nat → Nat → Int64} (l1 : Int32) (o2 : Option Value) (c0 : zeInb l1 60 = true) : zeRun 172 122 [some (.ref 16), some (.int l1), o2] [] (zk B im lm) = some (some (.int (im 31 (Int32.toNatClampNeg l1))), (zk B im lm)) := ze_ret (ok := (zeInb l1 60 && true)) rfl 7 rfl (zeA2 c0 rfl)
theorem d_172_135 {B : zeB} {im : Nat → Nat → Int32} {lm : Nat → Nat → Int64} (l1 : Int32) (o2 : Option Value) (c0 : zeInb l1 60 = true) : zeRun 172 135 [some (.ref 16), some (.int l1), o2] [] (zk B im lm) = some (some (.int (im 39 (Int32.toNatClampNeg l1))), (zk B im lm)) := ze_ret (ok := (zeInb l1 60 && true)) rfl 6 rfl (zeA2 c0 rfl)
theorem d_172_145 {B : zeB} {im : Nat → Nat → Int32} {lm : Nat → Nat → Int64} (l1 : Int32) (o2 : Option Value) (c0 : zeInb l1 60 = true) : zeRun 172 145 [some (.ref 16), some (.int l1), o2] [] (zk B im lm) = if (im 40 (Int32.toNatClampNeg l1)) = 0 then zeRun 172 161 [some (.ref 16), some (.int l1), o2] [] (zk B im lm) else zeRun 172 157 [some (.ref 16), some (.int l1), o2] [] (zk B im lm) := ze_if (ok := (zeInb l1 60 && true)) rfl 6 rfl (zeA2 c0 rfl)
theorem d_172_161 {B : zeB} {im : Nat → Nat → Int32} {lm : Nat → Nat → Int64} (o0 : Option Value) (o1 : Option Value) (o2 : Option Value)  : zeRun 172 161 [o0, o1, o2] [] (zk B im lm) = some (some (.int 0), (zk B im lm)) := ze_ret (ok := true) rfl 2 rfl rfl
theorem d_172_157 {B : zeB} {im : Nat → Nat → Int32} {lm : Nat → Nat → Int64} (o0 : Option Value) (o1 : Option Value) (o2 : Option Value)  : zeRun 172 157 [o0, o1, o2] [] (zk B im lm) = some (some (.int 1), (zk B im lm)) := ze_ret (ok := true) rfl 3 rfl rfl
theorem d_172_163 {B : zeB} {im : Nat → Nat → Int32} {lm : Nat → Nat → Int64} (o0 : Option Value) (o1 : Option Value) (o2 : Option Value)  : zeRun 172 163 [o0, o1, o2] [] (zk B im lm) = some (some (.int (-10000002)), (zk B im lm)) := ze_ret (ok := true) rfl 2 rfl rfl
def m_172 (l1 : Int32) (l2 : Int32) (im : zI) (lm : zJ) : zR :=
    zCk (if (if l1 < 0 then 0 else if (im 26 0) ≤ l1 then 0 else 1 : Int32) = 0 then true else if l2 = 0 then zeInb l1 60 else if l2 = 1 then zeInb l1 60 else if l2 = 2 then zeInb l1 60 else if l2 = 3 then zeInb l1 60 else if l2 = 4 then zeInb l1 60 else if l2 = 5 then zeInb l1 60 else if l2 = 6 then zeInb l1 60 else if l2 = 7 then zeInb l1 60 else true) <|
    some (if (if l1 < 0 then 0 else if (im 26 0) ≤ l1 then 0 else 1 : Int32) = 0 then (-10000001) else if l2 = 0 then (im 27 (Int32.toNatClampNeg l1)) else if l2 = 1 then (im 28 (Int32.toNatClampNeg l1)) else if l2 = 2 then (im 29 (Int32.toNatClampNeg l1)) else if l2 = 3 then (im 30 (Int32.toNatClampNeg l1)) else if l2 = 4 then (im 38 (Int32.toNatClampNeg l1)) else if l2 = 5 then (im 31 (Int32.toNatClampNeg l1)) else if l2 = 6 then (im 39 (Int32.toNatClampNeg l1)) else if l2 = 7 then if (im 40 (Int32.toNatClampNeg l1)) = 0 then 0 else 1 else (-10000002), im, lm)
theorem m_172_ok {B : zeB} (l1 : Int32) (l2 : Int32) (im : zI) (lm : zJ) : zL B 1 (m_172 l1 l2 im lm) (zeRun 172 0 [some (.ref 16), some (.int l1), some (.int l2)] [] (zk B im lm)) := by
  unfold m_172
  refine zL_bdp (e := (if l1 < 0 then 0 else if (im 26 0) ≤ l1 then 0 else 1 : Int32)) (d_172_0 _ _) (m_118_ok _ _ _) ?_
  refine zL_ifm (d_172_5 _ _ _) (fun h => ?_) (fun h => ?_)
  · repeat rw [if_pos h]
    refine zL_ckt ?_
    exact zL_ret (d_172_8 _ _ _)
  · repeat rw [if_neg h]
    refine zL_eq (d_172_11 _ _) ?_
    refine zL_swm (fun h => ?_) (fun h => ?_)
    · repeat rw [if_pos h]
      refine zL_ck fun c1 => ?_
      exact zL_ret (d_172_60 _ _ c1)
    repeat rw [if_neg h]
    refine zL_swm (fun h => ?_) (fun h => ?_)
    · repeat rw [if_pos h]
      refine zL_ck fun c2 => ?_
      exact zL_ret (d_172_73 _ _ c2)
    repeat rw [if_neg h]
    refine zL_swm (fun h => ?_) (fun h => ?_)
    · repeat rw [if_pos h]
      refine zL_ck fun c3 => ?_
      exact zL_ret (d_172_86 _ _ c3)
    repeat rw [if_neg h]
    refine zL_swm (fun h => ?_) (fun h => ?_)
    · repeat rw [if_pos h]
      refine zL_ck fun c4 => ?_
      exact zL_ret (d_172_99 _ _ c4)
    repeat rw [if_neg h]
    refine zL_swm (fun h => ?_) (fun h => ?_)
    · repeat rw [if_pos h]
      refine zL_ck fun c5 => ?_
      exact zL_ret (d_172_112 _ _ c5)
    repeat rw [if_neg h]
    refine zL_swm (fun h => ?_) (fun h => ?_)
    · repeat rw [if_pos h]
      refine zL_ck fun c6 => ?_
      exact zL_ret (d_172_122 _ _ c6)
    repeat rw [if_neg h]
    refine zL_swm (fun h => ?_) (fun h => ?_)
    · repeat rw [if_pos h]
      refine zL_ck fun c7 => ?_
      exact zL_ret (d_172_135 _ _ c7)
    repeat rw [if_neg h]
    refine zL_swm (fun h => ?_) (fun h => ?_)
    · repeat rw [if_pos h]
      refine zL_ck fun c8 => ?_
      refine zL_ifm (d_172_145 _ _ c8) (fun h => ?_) (fun h => ?_)
      · repeat rw [if_pos h]
        exact zL_ret (d_172_161 _ _ _)
      · repeat rw [if_neg h]
        exact zL_ret (d_172_157 _ _ _)
    repeat rw [if_neg h]
    refine zL_swd ?_
    refine zL_ckt ?_
    exact zL_ret (d_172_163 _ _ _)
/-! X8_entry -/
theorem d_173_0 {B : zeB} {im : Nat → Nat → Int32} {lm : Nat → Nat → Int64} (l1 : Int32) (l2 : Int32)  : zeRun 173 0 [some (.ref 170), some (.int l1), some (.int l2)] [] (zk B im lm) = zeBh 173 5 [some (.ref 170), some (.int l1), some (.int l2)] [] (zeRun 123 0 [some (.ref 170), some (.int l1)] [] (zk B im lm)) := ze_call (ok := true) rfl 3 rfl rfl rfl
theorem d_173_5 {B : zeB} {im : Nat → Nat → Int32} {lm : Nat → Nat → Int64} (l1 : Int32) (l2 : Int32) (s0 : Int32)  : zeRun 173 5 [some (.ref 170), some (.int l1), some (.int l2)] [.int s0] (zk B im lm) = if s0 = 0 then zeRun 173 11 [some (.ref 170), some (.int l1), some (.int l2)] [] (zk B im lm) else zeRun 173 8 [some (.ref 170), some (.int l1), some (.int l2)] [] (zk B im lm) := ze_if (ok := true) rfl 1 rfl rfl
theorem d_173_11 {B : zeB} {im : Nat → Nat → Int32} {lm : Nat → Nat → Int64} (l1 : Int32) (l2 : Int32)  : zeRun 173 11 [some (.ref 170), some (.int l1), some (.int l2)] [] (zk B im lm) = zeBh 173 15 [some (.ref 170), some (.int l1), some (.int l2)] [] (zeRun 47 0 [some (.ref 170), none, none, none, none, none, none] [] (zk B im lm)) := ze_call (ok := true) rfl 2 rfl rfl rfl
theorem d_173_15 {B : zeB} {im : Nat → Nat → Int32} {lm : Nat → Nat → Int64} (l1 : Int32) (l2 : Int32)  : zeRun 173 15 [some (.ref 170), some (.int l1), some (.int l2)] [] (zk B im lm) = zeRun 173 (zeSw l2 135 [(0, 64), (1, 64), (2, 76), (3, 64), (4, 91), (5, 98), (6, 113), (7, 120)]) [some (.ref 170), some (.int l1), some (.int l2)] [] (zk B im lm) := ze_go (ok := true) rfl 2 rfl rfl
theorem d_173_64 {B : zeB} {im : Nat → Nat → Int32} {lm : Nat → Nat → Int64} (l1 : Int32) (l2 : Int32)  : zeRun 173 64 [some (.ref 170), some (.int l1), some (.int l2)] [] (zk B im lm) = zeBh 173 72 [some (.ref 170), some (.int l1), some (.int l2)] [.ref 171] (zeRun 45 0 [some (.int l1)] [] (zk B im lm)) := ze_call (ok := true) rfl 4 rfl rfl rfl
theorem d_173_72 {B : zeB} {im : Nat → Nat → Int32} {lm : Nat → Nat → Int64} (o0 : Option Value) (o1 : Option Value) (l2 : Int32) (s1 : Int32) (c0 : zeInb (s1 + l2) 360 = true) : zeRun 173 72 [o0, o1, some (.int l2)] [.int s1, .ref 171] (zk B im lm) = some (some (.int (im 171 (Int32.toNatClampNeg (s1 + l2)))), (zk B im lm)) := ze_ret (ok := (zeInb (s1 + l2) 360 && true)) rfl 4 rfl (zeA2 c0 rfl)
theorem d_173_76 {B : zeB} {im : Nat → Nat → Int32} {lm : Nat → Nat → Int64} (l1 : Int32) (o2 : Option Value)  : zeRun 173 76 [some (.ref 170), some (.int l1), o2] [] (zk B im lm) = zeBh 173 84 [some (.ref 170), some (.int l1), o2] [.ref 171] (zeRun 45 0 [some (.int l1)] [] (zk B im lm)) := ze_call (ok := true) rfl 4 rfl rfl rfl
theorem d_173_84 {B : zeB} {im : Nat → Nat → Int32} {lm : Nat → Nat → Int64} (o0 : Option Value) (o1 : Option Value) (o2 : Option Value) (s1 : Int32) (c0 : zeInb (s1 + 2) 360 = true) : zeRun 173 84 [o0, o1, o2] [.int s1, .ref 171] (zk B im lm) = zeBh 173 90 [o0, o1, o2] [] (zeRun 160 0 [some (.int (im 171 (Int32.toNatClampNeg (s1 + 2))))] [] (zk B im lm)) := ze_call (ok := (zeInb (s1 + 2) 360 && true)) rfl 4 rfl rfl (zeA2 c0 rfl)
theorem d_173_90 {B : zeB} {im : Nat → Nat → Int32} {lm : Nat → Nat → Int64} (o0 : Option Value) (o1 : Option Value) (o2 : Option Value) (s0 : Int32)  : zeRun 173 90 [o0, o1, o2] [.int s0] (zk B im lm) = some (some (.int s0), (zk B im lm)) := ze_ret (ok := true) rfl 1 rfl rfl
theorem d_173_91 {B : zeB} {im : Nat → Nat → Int32} {lm : Nat → Nat → Int64} (l1 : Int32) (o2 : Option Value) (c0 : zeInb l1 60 = true) : zeRun 173 91 [some (.ref 170), some (.int l1), o2] [] (zk B im lm) = some (some (.int (im 176 (Int32.toNatClampNeg l1))), (zk B im lm)) := ze_ret (ok := (zeInb l1 60 && true)) rfl 5 rfl (zeA2 c0 rfl)
theorem d_173_98 {B : zeB} {im : Nat → Nat → Int32} {lm : Nat → Nat → Int64} (l1 : Int32) (o2 : Option Value)  : zeRun 173 98 [some (.ref 170), some (.int l1), o2] [] (zk B im lm) = zeBh 173 106 [some (.ref 170), some (.int l1), o2] [.ref 171] (zeRun 45 0 [some (.int l1)] [] (zk B im lm)) := ze_call (ok := true) rfl 4 rfl rfl rfl
theorem d_173_106 {B : zeB} {im : Nat → Nat → Int32} {lm : Nat → Nat → Int64} (o0 : Option Value) (o1 : Option Value) (o2 : Option Value) (s1 : Int32) (c0 : zeInb (s1 + 4) 360 = true) : zeRun 173 106 [o0, o1, o2] [.int s1, .ref 171] (zk B im lm) = zeBh 173 112 [o0, o1, o2] [] (zeRun 160 0 [some (.int (im 171 (Int32.toNatClampNeg (s1 + 4))))] [] (zk B im lm)) := ze_call (ok := (zeInb (s1 + 4) 360 && true)) rfl 4 rfl rfl (zeA2 c0 rfl)
theorem d_173_112 {B : zeB} {im : Nat → Nat → Int32} {lm : Nat → Nat → Int64} (o0 : Option Value) (o1 : Option Value) (o2 : Option Value) (s0 : Int32)  : zeRun 173 112 [o0, o1, o2] [.int s0] (zk B im lm) = some (some (.int s0), (zk B im lm)) := ze_ret (ok := true) rfl 1 rfl rfl
theorem d_173_113 {B : zeB} {im : Nat → Nat → Int32} {lm : Nat → Nat → Int64} (l1 : Int32) (o2 : Option Value) (c0 : zeInb l1 60 = true) : zeRun 173 113 [some (.ref 170), some (.int l1), o2] [] (zk B im lm) = some (some (.int (im 178 (Int32.toNatClampNeg l1))), (zk B im lm)) := ze_ret (ok := (zeInb l1 60 && true)) rfl 5 rfl (zeA2 c0 rfl)
theorem d_173_120 {B : zeB} {im : Nat → Nat → Int32} {lm : Nat → Nat → Int64} (l1 : Int32) (o2 : Option Value) (c0 : zeInb l1 60 = true) : zeRun 173 120 [some (.ref 170), some (.int l1), o2] [] (zk B im lm) = if (im 177 (Int32.toNatClampNeg l1)) = 0 then zeRun 173 133 [some (.ref 170), some (.int l1), o2] [] (zk B im lm) else zeRun 173 129 [some (.ref 170), some (.int l1), o2] [] (zk B im lm) := ze_if (ok := (zeInb l1 60 && true)) rfl 5 rfl (zeA2 c0 rfl)
theorem d_173_133 {B : zeB} {im : Nat → Nat → Int32} {lm : Nat → Nat → Int64} (o0 : Option Value) (o1 : Option Value) (o2 : Option Value)  : zeRun 173 133 [o0, o1, o2] [] (zk B im lm) = some (some (.int 0), (zk B im lm)) := ze_ret (ok := true) rfl 2 rfl rfl
theorem d_173_129 {B : zeB} {im : Nat → Nat → Int32} {lm : Nat → Nat → Int64} (o0 : Option Value) (o1 : Option Value) (o2 : Option Value)  : zeRun 173 129 [o0, o1, o2] [] (zk B im lm) = some (some (.int 1), (zk B im lm)) := ze_ret (ok := true) rfl 3 rfl rfl
theorem d_173_135 {B : zeB} {im : Nat → Nat → Int32} {lm : Nat → Nat → Int64} (o0 : Option Value) (o1 : Option Value) (o2 : Option Value)  : zeRun 173 135 [o0, o1, o2] [] (zk B im lm) = some (some (.int (-10000002)), (zk B im lm)) := ze_ret (ok := true) rfl 2 rfl rfl
theorem d_173_8 {B : zeB} {im : Nat → Nat → Int32} {lm : Nat → Nat → Int64} (o0 : Option Value) (o1 : Option Value) (o2 : Option Value)  : zeRun 173 8 [o0, o1, o2] [] (zk B im lm) = some (some (.int (-10000001)), (zk B im lm)) := ze_ret (ok := true) rfl 2 rfl rfl
def m_173 (l1 : Int32) (l2 : Int32) (im : zI) (lm : zJ) : zR :=
    if (if (if l1 < 0 then 0 else if ((im 171 5) - 1) < l1 then 0 else 1 : Int32) = 0 then 1 else 0 : Int32) = 0 then
      zBd (m_47  im lm) fun _ im2 lm2 =>
      zCk (if l2 = 0 then zeInb (((60 + (5 * l1)) : Int32) + l2) 360 else if l2 = 1 then zeInb (((60 + (5 * l1)) : Int32) + l2) 360 else if l2 = 2 then zeInb (((60 + (5 * l1)) : Int32) + 2) 360 else if l2 = 3 then zeInb (((60 + (5 * l1)) : Int32) + l2) 360 else if l2 = 4 then zeInb l1 60 else if l2 = 5 then zeInb (((60 + (5 * l1)) : Int32) + 4) 360 else if l2 = 6 then zeInb l1 60 else if l2 = 7 then zeInb l1 60 else true) <|
      some (if l2 = 0 then (im2 171 (Int32.toNatClampNeg (((60 + (5 * l1)) : Int32) + l2))) else if l2 = 1 then (im2 171 (Int32.toNatClampNeg (((60 + (5 * l1)) : Int32) + l2))) else if l2 = 2 then (if 0 ≤ (im2 171 (Int32.toNatClampNeg (((60 + (5 * l1)) : Int32) + 2))) then (im2 171 (Int32.toNatClampNeg (((60 + (5 * l1)) : Int32) + 2))) else (-10000005) : Int32) else if l2 = 3 then (im2 171 (Int32.toNatClampNeg (((60 + (5 * l1)) : Int32) + l2))) else if l2 = 4 then (im2 176 (Int32.toNatClampNeg l1)) else if l2 = 5 then (if 0 ≤ (im2 171 (Int32.toNatClampNeg (((60 + (5 * l1)) : Int32) + 4))) then (im2 171 (Int32.toNatClampNeg (((60 + (5 * l1)) : Int32) + 4))) else (-10000005) : Int32) else if l2 = 6 then (im2 178 (Int32.toNatClampNeg l1)) else if l2 = 7 then if (im2 177 (Int32.toNatClampNeg l1)) = 0 then 0 else 1 else (-10000002), im2, lm2)
    else
      some ((-10000001), im, lm)
theorem m_173_ok {B : zeB} (l1 : Int32) (l2 : Int32) (im : zI) (lm : zJ) : zL B 1 (m_173 l1 l2 im lm) (zeRun 173 0 [some (.ref 170), some (.int l1), some (.int l2)] [] (zk B im lm)) := by
  unfold m_173
  refine zL_bdp (e := (if (if l1 < 0 then 0 else if ((im 171 5) - 1) < l1 then 0 else 1 : Int32) = 0 then 1 else 0 : Int32)) (d_173_0 _ _) (m_123_ok _ _ _) ?_
  refine zL_if (d_173_5 _ _ _) (fun h => ?_) (fun h => ?_)
  · skip
    refine zL_bdv (d_173_11 _ _) (m_47_ok _ _) fun _ im2 lm2 => ?_
    refine zL_eq (d_173_15 _ _) ?_
    refine zL_swm (fun h => ?_) (fun h => ?_)
    · repeat rw [if_pos h]
      refine zL_bdp (e := ((60 + (5 * l1)) : Int32)) (d_173_64 _ _) (m_45_ok _ _ _) ?_
      refine zL_ck fun c1 => ?_
      exact zL_ret (d_173_72 _ _ _ _ c1)
    repeat rw [if_neg h]
    refine zL_swm (fun h => ?_) (fun h => ?_)
    · repeat rw [if_pos h]
      refine zL_bdp (e := ((60 + (5 * l1)) : Int32)) (d_173_64 _ _) (m_45_ok _ _ _) ?_
      refine zL_ck fun c2 => ?_
      exact zL_ret (d_173_72 _ _ _ _ c2)
    repeat rw [if_neg h]
    refine zL_swm (fun h => ?_) (fun h => ?_)
    · repeat rw [if_pos h]
      refine zL_bdp (e := ((60 + (5 * l1)) : Int32)) (d_173_76 _ _) (m_45_ok _ _ _) ?_
      refine zL_ck fun c3 => ?_
      refine zL_bdp (e := (if 0 ≤ (im2 171 (Int32.toNatClampNeg (((60 + (5 * l1)) : Int32) + 2))) then (im2 171 (Int32.toNatClampNeg (((60 + (5 * l1)) : Int32) + 2))) else (-10000005) : Int32)) (d_173_84 _ _ _ _ c3) (m_160_ok _ _ _) ?_
      exact zL_ret (d_173_90 _ _ _ _)
    repeat rw [if_neg h]
    refine zL_swm (fun h => ?_) (fun h => ?_)
    · repeat rw [if_pos h]
      refine zL_bdp (e := ((60 + (5 * l1)) : Int32)) (d_173_64 _ _) (m_45_ok _ _ _) ?_
      refine zL_ck fun c4 => ?_
      exact zL_ret (d_173_72 _ _ _ _ c4)
    repeat rw [if_neg h]
    refine zL_swm (fun h => ?_) (fun h => ?_)
    · repeat rw [if_pos h]
      refine zL_ck fun c5 => ?_
      exact zL_ret (d_173_91 _ _ c5)
    repeat rw [if_neg h]
    refine zL_swm (fun h => ?_) (fun h => ?_)
    · repeat rw [if_pos h]
      refine zL_bdp (e := ((60 + (5 * l1)) : Int32)) (d_173_98 _ _) (m_45_ok _ _ _) ?_
      refine zL_ck fun c6 => ?_
      refine zL_bdp (e := (if 0 ≤ (im2 171 (Int32.toNatClampNeg (((60 + (5 * l1)) : Int32) + 4))) then (im2 171 (Int32.toNatClampNeg (((60 + (5 * l1)) : Int32) + 4))) else (-10000005) : Int32)) (d_173_106 _ _ _ _ c6) (m_160_ok _ _ _) ?_
      exact zL_ret (d_173_112 _ _ _ _)
    repeat rw [if_neg h]
    refine zL_swm (fun h => ?_) (fun h => ?_)
    · repeat rw [if_pos h]
      refine zL_ck fun c7 => ?_
      exact zL_ret (d_173_113 _ _ c7)
    repeat rw [if_neg h]
    refine zL_swm (fun h => ?_) (fun h => ?_)
    · repeat rw [if_pos h]
      refine zL_ck fun c8 => ?_
      refine zL_ifm (d_173_120 _ _ c8) (fun h => ?_) (fun h => ?_)
      · repeat rw [if_pos h]
        exact zL_ret (d_173_133 _ _ _)
      · repeat rw [if_neg h]
        exact zL_ret (d_173_129 _ _ _)
    repeat rw [if_neg h]
    refine zL_swd ?_
    refine zL_ckt ?_
    exact zL_ret (d_173_135 _ _ _)
  · skip
    exact zL_ret (d_173_8 _ _ _)
/-! X7_isClueUnderWay -/
theorem d_174_0 {B : zeB} {im : Nat → Nat → Int32} {lm : Nat → Nat → Int64}   : zeRun 174 0 [some (.ref 16)] [] (zk B im lm) = if (im 17 0) = 1 then zeRun 174 33 [some (.ref 16)] [] (zk B im lm) else zeRun 174 11 [some (.ref 16)] [] (zk B im lm) := ze_if (ok := true) rfl 5 rfl rfl
theorem d_174_33 {B : zeB} {im : Nat → Nat → Int32} {lm : Nat → Nat → Int64} (o0 : Option Value)  : zeRun 174 33 [o0] [] (zk B im lm) = some (some (.int 1), (zk B im lm)) := ze_ret (ok := true) rfl 3 rfl rfl
theorem d_174_11 {B : zeB} {im : Nat → Nat → Int32} {lm : Nat → Nat → Int64}   : zeRun 174 11 [some (.ref 16)] [] (zk B im lm) = if (im 17 0) = 2 then zeRun 174 33 [some (.ref 16)] [] (zk B im lm) else zeRun 174 22 [some (.ref 16)] [] (zk B im lm) := ze_if (ok := true) rfl 5 rfl rfl
theorem d_174_22 {B : zeB} {im : Nat → Nat → Int32} {lm : Nat → Nat → Int64}   : zeRun 174 22 [some (.ref 16)] [] (zk B im lm) = if (im 17 0) = 3 then zeRun 174 33 [some (.ref 16)] [] (zk B im lm) else zeRun 174 37 [some (.ref 16)] [] (zk B im lm) := ze_if (ok := true) rfl 5 rfl rfl
theorem d_174_37 {B : zeB} {im : Nat → Nat → Int32} {lm : Nat → Nat → Int64} (o0 : Option Value)  : zeRun 174 37 [o0] [] (zk B im lm) = some (some (.int 0), (zk B im lm)) := ze_ret (ok := true) rfl 2 rfl rfl
def m_174  (im : zI) (lm : zJ) : zR :=
    some (if (im 17 0) = 1 then 1 else if (im 17 0) = 2 then 1 else if (im 17 0) = 3 then 1 else 0, im, lm)
theorem m_174_ok {B : zeB}  (im : zI) (lm : zJ) : zL B 1 (m_174  im lm) (zeRun 174 0 [some (.ref 16)] [] (zk B im lm)) := by
  unfold m_174
  refine zL_ifm d_174_0 (fun h => ?_) (fun h => ?_)
  · repeat rw [if_pos h]
    exact zL_ret (d_174_33 _)
  · repeat rw [if_neg h]
    refine zL_ifm d_174_11 (fun h => ?_) (fun h => ?_)
    · repeat rw [if_pos h]
      exact zL_ret (d_174_33 _)
    · repeat rw [if_neg h]
      refine zL_ifm d_174_22 (fun h => ?_) (fun h => ?_)
      · repeat rw [if_pos h]
        exact zL_ret (d_174_33 _)
      · repeat rw [if_neg h]
        exact zL_ret (d_174_37 _)
/-! X7_leaders -/
theorem d_175_0 {B : zeB} {im : Nat → Nat → Int32} {lm : Nat → Nat → Int64} (o1 : Option Value) (o2 : Option Value)  : zeRun 175 0 [some (.ref 16), o1, o2] [] (zk B im lm) = zeRun 175 4 [some (.ref 16), some (.int 0), some (.int 0)] [] (zk B im lm) := ze_go (ok := true) rfl 4 rfl rfl
theorem d_175_4 {B : zeB} {im : Nat → Nat → Int32} {lm : Nat → Nat → Int64} (l1 : Int32) (l2 : Int32)  : zeRun 175 4 [some (.ref 16), some (.int l1), some (.int l2)] [] (zk B im lm) = if (im 17 1) ≤ l2 then zeRun 175 43 [some (.ref 16), some (.int l1), some (.int l2)] [] (zk B im lm) else zeRun 175 15 [some (.ref 16), some (.int l1), some (.int l2)] [] (zk B im lm) := ze_if (ok := true) rfl 5 rfl rfl
theorem d_175_43 {B : zeB} {im : Nat → Nat → Int32} {lm : Nat → Nat → Int64} (o0 : Option Value) (l1 : Int32) (o2 : Option Value)  : zeRun 175 43 [o0, some (.int l1), o2] [] (zk B im lm) = some (some (.int l1), (zk B im lm)) := ze_ret (ok := true) rfl 2 rfl rfl
theorem d_175_15 {B : zeB} {im : Nat → Nat → Int32} {lm : Nat → Nat → Int64} (l1 : Int32) (l2 : Int32) (c0 : zeInb l2 6 = true) : zeRun 175 15 [some (.ref 16), some (.int l1), some (.int l2)] [] (zk B im lm) = zeBh 175 28 [some (.ref 16), some (.int l1), some (.int l2)] [] (zeRun 153 0 [some (.ref 16), some (.int (im 33 (Int32.toNatClampNeg l2))), none, none] [] (zk B im lm)) := ze_call (ok := (zeInb l2 6 && true)) rfl 7 rfl rfl (zeA2 c0 rfl)
theorem d_175_28 {B : zeB} {im : Nat → Nat → Int32} {lm : Nat → Nat → Int64} (l1 : Int32) (l2 : Int32) (s0 : Int32)  : zeRun 175 28 [some (.ref 16), some (.int l1), some (.int l2)] [.int s0] (zk B im lm) = if s0 = 0 then zeRun 175 31 [some (.ref 16), some (.int l1), some (.int l2)] [] (zk B im lm) else zeRun 175 37 [some (.ref 16), some (.int l1), some (.int l2)] [] (zk B im lm) := ze_if (ok := true) rfl 1 rfl rfl
theorem d_175_31 {B : zeB} {im : Nat → Nat → Int32} {lm : Nat → Nat → Int64} (l1 : Int32) (l2 : Int32)  : zeRun 175 31 [some (.ref 16), some (.int l1), some (.int l2)] [] (zk B im lm) = zeRun 175 4 [some (.ref 16), some (.int (l1 ||| (1 <<< (l2 &&& 31)))), some (.int (l2 + 1))] [] (zk B im lm) := ze_go (ok := true) rfl 8 rfl rfl
theorem d_175_37 {B : zeB} {im : Nat → Nat → Int32} {lm : Nat → Nat → Int64} (l1 : Int32) (l2 : Int32)  : zeRun 175 37 [some (.ref 16), some (.int l1), some (.int l2)] [] (zk B im lm) = zeRun 175 4 [some (.ref 16), some (.int l1), some (.int (l2 + 1))] [] (zk B im lm) := ze_go (ok := true) rfl 2 rfl rfl
def F_175_4  : Nat → Int32 → Int32 → zI → zJ → zR
  | 0, _, _, _, _ => none
  | n + 1, l1, l2, im, lm =>
    if (im 17 1) ≤ l2 then
      some (l1, im, lm)
    else
      zCk (zeInb l2 6) <|
      zBd (m_153 (im 33 (Int32.toNatClampNeg l2)) im lm) fun v1 im1 lm1 =>
      F_175_4  n (if v1 = 0 then (l1 ||| (1 <<< (l2 &&& 31))) else l1) (l2 + 1) im1 lm1
theorem F_175_4_ok {B : zeB} : ∀ (n : Nat) (l1 : Int32) (l2 : Int32)  (im : zI) (lm : zJ), zL B 1 (F_175_4  n l1 l2 im lm) (zeRun 175 4 [some (.ref 16), some (.int l1), some (.int l2)] [] (zk B im lm)) := by
  intro n
  induction n with
  | zero => intros; exact zL_none
  | succ n ih =>
    intro l1 l2 im lm
    unfold F_175_4
    refine zL_if (d_175_4 _ _) (fun h => ?_) (fun h => ?_)
    · skip
      exact zL_ret (d_175_43 _ _ _)
    · skip
      refine zL_ck fun c1 => ?_
      refine zL_bd (d_175_15 _ _ c1) (m_153_ok _ _ _) fun v1 im1 lm1 => ?_
      refine zL_ifm (d_175_28 _ _ _) (fun h => ?_) (fun h => ?_)
      · repeat rw [if_pos h]
        refine zL_eq (d_175_31 _ _) ?_
        exact ih _ _ _ _
      · repeat rw [if_neg h]
        refine zL_eq (d_175_37 _ _) ?_
        exact ih _ _ _ _
def m_175  (im : zI) (lm : zJ) : zR :=
    F_175_4  2000 0 0 im lm
theorem m_175_ok {B : zeB}  (im : zI) (lm : zJ) : zL B 1 (m_175  im lm) (zeRun 175 0 [some (.ref 16), none, none] [] (zk B im lm)) := by
  unfold m_175
  refine zL_eq (d_175_0 _ _) ?_
  exact F_175_4_ok  _ _ _ _ _
/-! X7_sumOfScores -/
theorem d_176_0 {B : zeB} {im : Nat → Nat → Int32} {lm : Nat → Nat → Int64} (o1 : Option Value) (o2 : Option Value)  : zeRun 176 0 [some (.ref 16), o1, o2] [] (zk B im lm) = zeRun 176 4 [some (.ref 16), some (.int 0), some (.int 0)] [] (zk B im lm) := ze_go (ok := true) rfl 4 rfl rfl
theorem d_176_4 {B : zeB} {im : Nat → Nat → Int32} {lm : Nat → Nat → Int64} (l1 : Int32) (l2 : Int32)  : zeRun 176 4 [some (.ref 16), some (.int l1), some (.int l2)] [] (zk B im lm) = if (im 17 1) ≤ l2 then zeRun 176 33 [some (.ref 16), some (.int l1), some (.int l2)] [] (zk B im lm) else zeRun 176 15 [some (.ref 16), some (.int l1), some (.int l2)] [] (zk B im lm) := ze_if (ok := true) rfl 5 rfl rfl
theorem d_176_33 {B : zeB} {im : Nat → Nat → Int32} {lm : Nat → Nat → Int64} (o0 : Option Value) (l1 : Int32) (o2 : Option Value)  : zeRun 176 33 [o0, some (.int l1), o2] [] (zk B im lm) = some (some (.int l1), (zk B im lm)) := ze_ret (ok := true) rfl 2 rfl rfl
theorem d_176_15 {B : zeB} {im : Nat → Nat → Int32} {lm : Nat → Nat → Int64} (l1 : Int32) (l2 : Int32) (c0 : zeInb l2 6 = true) : zeRun 176 15 [some (.ref 16), some (.int l1), some (.int l2)] [] (zk B im lm) = zeRun 176 4 [some (.ref 16), some (.int (l1 + (im 33 (Int32.toNatClampNeg l2)))), some (.int (l2 + 1))] [] (zk B im lm) := ze_go (ok := (zeInb l2 6 && true)) rfl 10 rfl (zeA2 c0 rfl)
def F_176_4  : Nat → Int32 → Int32 → zI → zJ → zR
  | 0, _, _, _, _ => none
  | n + 1, l1, l2, im, lm =>
    if (im 17 1) ≤ l2 then
      some (l1, im, lm)
    else
      zCk (zeInb l2 6) <|
      F_176_4  n (l1 + (im 33 (Int32.toNatClampNeg l2))) (l2 + 1) im lm
theorem F_176_4_ok {B : zeB} : ∀ (n : Nat) (l1 : Int32) (l2 : Int32)  (im : zI) (lm : zJ), zL B 1 (F_176_4  n l1 l2 im lm) (zeRun 176 4 [some (.ref 16), some (.int l1), some (.int l2)] [] (zk B im lm)) := by
  intro n
  induction n with
  | zero => intros; exact zL_none
  | succ n ih =>
    intro l1 l2 im lm
    unfold F_176_4
    refine zL_if (d_176_4 _ _) (fun h => ?_) (fun h => ?_)
    · skip
      exact zL_ret (d_176_33 _ _ _)
    · skip
      refine zL_ck fun c1 => ?_
      refine zL_eq (d_176_15 _ _ c1) ?_
      exact ih _ _ _ _
def m_176  (im : zI) (lm : zJ) : zR :=
    F_176_4  2000 0 0 im lm
theorem m_176_ok {B : zeB}  (im : zI) (lm : zJ) : zL B 1 (m_176  im lm) (zeRun 176 0 [some (.ref 16), none, none] [] (zk B im lm)) := by
  unfold m_176
  refine zL_eq (d_176_0 _ _) ?_
  exact F_176_4_ok  _ _ _ _ _
/-! X7_count -/
theorem d_177_0 {B : zeB} {im : Nat → Nat → Int32} {lm : Nat → Nat → Int64} (l1 : Int32)  : zeRun 177 0 [some (.ref 16), some (.int l1)] [] (zk B im lm) = zeRun 177 (zeSw l1 216 [(0, 76), (1, 84), (2, 92), (3, 106), (4, 129), (5, 134), (6, 145), (7, 150), (8, 155), (9, 155), (10, 155), (11, 168), (12, 173), (13, 181), (14, 189)]) [some (.ref 16), some (.int l1)] [] (zk B im lm) := ze_go (ok := true) rfl 2 rfl rfl
theorem d_177_76 {B : zeB} {im : Nat → Nat → Int32} {lm : Nat → Nat → Int64} (o1 : Option Value)  : zeRun 177 76 [some (.ref 16), o1] [] (zk B im lm) = some (some (.int (im 17 0)), (zk B im lm)) := ze_ret (ok := true) rfl 4 rfl rfl
theorem d_177_84 {B : zeB} {im : Nat → Nat → Int32} {lm : Nat → Nat → Int64} (o1 : Option Value)  : zeRun 177 84 [some (.ref 16), o1] [] (zk B im lm) = some (some (.int (im 17 1)), (zk B im lm)) := ze_ret (ok := true) rfl 4 rfl rfl
theorem d_177_92 {B : zeB} {im : Nat → Nat → Int32} {lm : Nat → Nat → Int64} (o1 : Option Value)  : zeRun 177 92 [some (.ref 16), o1] [] (zk B im lm) = zeBh 177 104 [some (.ref 16), o1] [.int 25] (zeRun 29 0 [some (.int (im 17 3))] [] (zk B im lm)) := ze_call (ok := true) rfl 5 rfl rfl rfl
theorem d_177_104 {B : zeB} {im : Nat → Nat → Int32} {lm : Nat → Nat → Int64} (o0 : Option Value) (o1 : Option Value) (s0 : Int32) (s1 : Int32)  : zeRun 177 104 [o0, o1] [.int s1, .int s0] (zk B im lm) = some (some (.int (s0 - s1)), (zk B im lm)) := ze_ret (ok := true) rfl 2 rfl rfl
theorem d_177_106 {B : zeB} {im : Nat → Nat → Int32} {lm : Nat → Nat → Int64} (o1 : Option Value)  : zeRun 177 106 [some (.ref 16), o1] [] (zk B im lm) = zeBh 177 110 [some (.ref 16), o1] [] (zeRun 174 0 [some (.ref 16)] [] (zk B im lm)) := ze_call (ok := true) rfl 2 rfl rfl rfl
theorem d_177_110 {B : zeB} {im : Nat → Nat → Int32} {lm : Nat → Nat → Int64} (o1 : Option Value) (s0 : Int32)  : zeRun 177 110 [some (.ref 16), o1] [.int s0] (zk B im lm) = if s0 = 0 then zeRun 177 126 [some (.ref 16), o1] [] (zk B im lm) else zeRun 177 113 [some (.ref 16), o1] [] (zk B im lm) := ze_if (ok := true) rfl 1 rfl rfl
theorem d_177_126 {B : zeB} {im : Nat → Nat → Int32} {lm : Nat → Nat → Int64} (o0 : Option Value) (o1 : Option Value)  : zeRun 177 126 [o0, o1] [] (zk B im lm) = some (some (.int (-10000005)), (zk B im lm)) := ze_ret (ok := true) rfl 2 rfl rfl
theorem d_177_113 {B : zeB} {im : Nat → Nat → Int32} {lm : Nat → Nat → Int64} (o1 : Option Value)  : zeRun 177 113 [some (.ref 16), o1] [] (zk B im lm) = some (some (.int (im 19 0)), (zk B im lm)) := ze_ret (ok := true) rfl 6 rfl rfl
theorem d_177_129 {B : zeB} {im : Nat → Nat → Int32} {lm : Nat → Nat → Int64} (o1 : Option Value)  : zeRun 177 129 [some (.ref 16), o1] [] (zk B im lm) = zeBh 177 133 [some (.ref 16), o1] [] (zeRun 39 0 [some (.ref 16)] [] (zk B im lm)) := ze_call (ok := true) rfl 2 rfl rfl rfl
theorem d_177_133 {B : zeB} {im : Nat → Nat → Int32} {lm : Nat → Nat → Int64} (o0 : Option Value) (o1 : Option Value) (s0 : Int32)  : zeRun 177 133 [o0, o1] [.int s0] (zk B im lm) = some (some (.int s0), (zk B im lm)) := ze_ret (ok := true) rfl 1 rfl rfl
theorem d_177_134 {B : zeB} {im : Nat → Nat → Int32} {lm : Nat → Nat → Int64} (o1 : Option Value)  : zeRun 177 134 [some (.ref 16), o1] [] (zk B im lm) = some (some (.int (im 26 0)), (zk B im lm)) := ze_ret (ok := true) rfl 5 rfl rfl
theorem d_177_145 {B : zeB} {im : Nat → Nat → Int32} {lm : Nat → Nat → Int64} (o1 : Option Value)  : zeRun 177 145 [some (.ref 16), o1] [] (zk B im lm) = zeBh 177 149 [some (.ref 16), o1] [] (zeRun 175 0 [some (.ref 16), none, none] [] (zk B im lm)) := ze_call (ok := true) rfl 2 rfl rfl rfl
theorem d_177_149 {B : zeB} {im : Nat → Nat → Int32} {lm : Nat → Nat → Int64} (o0 : Option Value) (o1 : Option Value) (s0 : Int32)  : zeRun 177 149 [o0, o1] [.int s0] (zk B im lm) = some (some (.int s0), (zk B im lm)) := ze_ret (ok := true) rfl 1 rfl rfl
theorem d_177_150 {B : zeB} {im : Nat → Nat → Int32} {lm : Nat → Nat → Int64} (o1 : Option Value)  : zeRun 177 150 [some (.ref 16), o1] [] (zk B im lm) = zeBh 177 154 [some (.ref 16), o1] [] (zeRun 176 0 [some (.ref 16), none, none] [] (zk B im lm)) := ze_call (ok := true) rfl 2 rfl rfl rfl
theorem d_177_154 {B : zeB} {im : Nat → Nat → Int32} {lm : Nat → Nat → Int64} (o0 : Option Value) (o1 : Option Value) (s0 : Int32)  : zeRun 177 154 [o0, o1] [.int s0] (zk B im lm) = some (some (.int s0), (zk B im lm)) := ze_ret (ok := true) rfl 1 rfl rfl
theorem d_177_155 {B : zeB} {im : Nat → Nat → Int32} {lm : Nat → Nat → Int64} (l1 : Int32) (c0 : zeInb (l1 - 8) 3 = true) : zeRun 177 155 [some (.ref 16), some (.int l1)] [] (zk B im lm) = some (some (.int (im 18 (Int32.toNatClampNeg (l1 - 8)))), (zk B im lm)) := ze_ret (ok := (zeInb (l1 - 8) 3 && true)) rfl 8 rfl (zeA2 c0 rfl)
theorem d_177_168 {B : zeB} {im : Nat → Nat → Int32} {lm : Nat → Nat → Int64} (o1 : Option Value)  : zeRun 177 168 [some (.ref 16), o1] [] (zk B im lm) = some (some (.int (im 16 7)), (zk B im lm)) := ze_ret (ok := true) rfl 3 rfl rfl
theorem d_177_173 {B : zeB} {im : Nat → Nat → Int32} {lm : Nat → Nat → Int64} (o1 : Option Value)  : zeRun 177 173 [some (.ref 16), o1] [] (zk B im lm) = some (some (.int (im 42 0)), (zk B im lm)) := ze_ret (ok := true) rfl 4 rfl rfl
theorem d_177_181 {B : zeB} {im : Nat → Nat → Int32} {lm : Nat → Nat → Int64} (o1 : Option Value)  : zeRun 177 181 [some (.ref 16), o1] [] (zk B im lm) = some (some (.int (im 166 0)), (zk B im lm)) := ze_ret (ok := true) rfl 4 rfl rfl
theorem d_177_189 {B : zeB} {im : Nat → Nat → Int32} {lm : Nat → Nat → Int64} (o1 : Option Value)  : zeRun 177 189 [some (.ref 16), o1] [] (zk B im lm) = if (im 17 0) = 5 then zeRun 177 200 [some (.ref 16), o1] [] (zk B im lm) else zeRun 177 213 [some (.ref 16), o1] [] (zk B im lm) := ze_if (ok := true) rfl 5 rfl rfl
theorem d_177_200 {B : zeB} {im : Nat → Nat → Int32} {lm : Nat → Nat → Int64} (o1 : Option Value)  : zeRun 177 200 [some (.ref 16), o1] [] (zk B im lm) = zeBh 177 210 [some (.ref 16), o1] [] (zeRun 82 0 [some (.ref 23), none] [] (zk B im lm)) := ze_call (ok := true) rfl 4 rfl rfl rfl
theorem d_177_210 {B : zeB} {im : Nat → Nat → Int32} {lm : Nat → Nat → Int64} (o0 : Option Value) (o1 : Option Value) (s0 : Int32)  : zeRun 177 210 [o0, o1] [.int s0] (zk B im lm) = some (some (.int s0), (zk B im lm)) := ze_ret (ok := true) rfl 2 rfl rfl
theorem d_177_213 {B : zeB} {im : Nat → Nat → Int32} {lm : Nat → Nat → Int64} (o0 : Option Value) (o1 : Option Value)  : zeRun 177 213 [o0, o1] [] (zk B im lm) = some (some (.int (-10000005)), (zk B im lm)) := ze_ret (ok := true) rfl 2 rfl rfl
theorem d_177_216 {B : zeB} {im : Nat → Nat → Int32} {lm : Nat → Nat → Int64} (o0 : Option Value) (o1 : Option Value)  : zeRun 177 216 [o0, o1] [] (zk B im lm) = some (some (.int (-10000002)), (zk B im lm)) := ze_ret (ok := true) rfl 2 rfl rfl
def m_177 (l1 : Int32) (im : zI) (lm : zJ) : zR :=
    if l1 = 0 then
      some ((im 17 0), im, lm)
    else
      if l1 = 1 then
        some ((im 17 1), im, lm)
      else
        if l1 = 2 then
          zBd (m_29 (im 17 3) im lm) fun v1 im1 lm1 =>
          some ((25 - v1), im1, lm1)
        else
          if l1 = 3 then
            some (if (if (im 17 0) = 1 then 1 else if (im 17 0) = 2 then 1 else if (im 17 0) = 3 then 1 else 0 : Int32) = 0 then (-10000005) else (im 19 0), im, lm)
          else
            if l1 = 4 then
              some ((if (im 17 1) = 0 then (-10000005) else (im 32 0) : Int32), im, lm)
            else
              if l1 = 5 then
                some ((im 26 0), im, lm)
              else
                if l1 = 6 then
                  zBd (m_175  im lm) fun v4 im4 lm4 =>
                  some (v4, im4, lm4)
                else
                  if l1 = 7 then
                    zBd (m_176  im lm) fun v5 im5 lm5 =>
                    some (v5, im5, lm5)
                  else
                    if l1 = 8 then
                      zCk (zeInb (l1 - 8) 3) <|
                      some ((im 18 (Int32.toNatClampNeg (l1 - 8))), im, lm)
                    else
                      if l1 = 9 then
                        zCk (zeInb (l1 - 8) 3) <|
                        some ((im 18 (Int32.toNatClampNeg (l1 - 8))), im, lm)
                      else
                        if l1 = 10 then
                          zCk (zeInb (l1 - 8) 3) <|
                          some ((im 18 (Int32.toNatClampNeg (l1 - 8))), im, lm)
                        else
                          if l1 = 11 then
                            some ((im 16 7), im, lm)
                          else
                            if l1 = 12 then
                              some ((im 42 0), im, lm)
                            else
                              if l1 = 13 then
                                some ((im 166 0), im, lm)
                              else
                                if l1 = 14 then
                                  if (im 17 0) = 5 then
                                    zBd (m_82  im lm) fun v6 im6 lm6 =>
                                    some (v6, im6, lm6)
                                  else
                                    some ((-10000005), im, lm)
                                else
                                  some ((-10000002), im, lm)
theorem m_177_ok {B : zeB} (l1 : Int32) (im : zI) (lm : zJ) : zL B 1 (m_177 l1 im lm) (zeRun 177 0 [some (.ref 16), some (.int l1)] [] (zk B im lm)) := by
  unfold m_177
  refine zL_eq (d_177_0 _) ?_
  refine zL_sw (fun h => ?_) (fun h => ?_)
  · skip
    exact zL_ret (d_177_76 _)
  refine zL_sw (fun h => ?_) (fun h => ?_)
  · skip
    exact zL_ret (d_177_84 _)
  refine zL_sw (fun h => ?_) (fun h => ?_)
  · skip
    refine zL_bd (d_177_92 _) (m_29_ok _ _ _) fun v1 im1 lm1 => ?_
    exact zL_ret (d_177_104 _ _ _ _)
  refine zL_sw (fun h => ?_) (fun h => ?_)
  · skip
    refine zL_bdp (e := (if (im 17 0) = 1 then 1 else if (im 17 0) = 2 then 1 else if (im 17 0) = 3 then 1 else 0 : Int32)) (d_177_106 _) (m_174_ok _ _) ?_
    refine zL_ifm (d_177_110 _ _) (fun h => ?_) (fun h => ?_)
    · repeat rw [if_pos h]
      exact zL_ret (d_177_126 _ _)
    · repeat rw [if_neg h]
      exact zL_ret (d_177_113 _)
  refine zL_sw (fun h => ?_) (fun h => ?_)
  · skip
    refine zL_bdp (e := (if (im 17 1) = 0 then (-10000005) else (im 32 0) : Int32)) (d_177_129 _) (m_39_ok _ _) ?_
    exact zL_ret (d_177_133 _ _ _)
  refine zL_sw (fun h => ?_) (fun h => ?_)
  · skip
    exact zL_ret (d_177_134 _)
  refine zL_sw (fun h => ?_) (fun h => ?_)
  · skip
    refine zL_bd (d_177_145 _) (m_175_ok _ _) fun v4 im4 lm4 => ?_
    exact zL_ret (d_177_149 _ _ _)
  refine zL_sw (fun h => ?_) (fun h => ?_)
  · skip
    refine zL_bd (d_177_150 _) (m_176_ok _ _) fun v5 im5 lm5 => ?_
    exact zL_ret (d_177_154 _ _ _)
  refine zL_sw (fun h => ?_) (fun h => ?_)
  · skip
    refine zL_ck fun c1 => ?_
    exact zL_ret (d_177_155 _ c1)
  refine zL_sw (fun h => ?_) (fun h => ?_)
  · skip
    refine zL_ck fun c2 => ?_
    exact zL_ret (d_177_155 _ c2)
  refine zL_sw (fun h => ?_) (fun h => ?_)
  · skip
    refine zL_ck fun c3 => ?_
    exact zL_ret (d_177_155 _ c3)
  refine zL_sw (fun h => ?_) (fun h => ?_)
  · skip
    exact zL_ret (d_177_168 _)
  refine zL_sw (fun h => ?_) (fun h => ?_)
  · skip
    exact zL_ret (d_177_173 _)
  refine zL_sw (fun h => ?_) (fun h => ?_)
  · skip
    exact zL_ret (d_177_181 _)
  refine zL_sw (fun h => ?_) (fun h => ?_)
  · skip
    refine zL_if (d_177_189 _) (fun h => ?_) (fun h => ?_)
    · skip
      refine zL_bd (d_177_200 _) (m_82_ok _ _) fun v6 im6 lm6 => ?_
      exact zL_ret (d_177_210 _ _ _)
    · skip
      exact zL_ret (d_177_213 _ _)
  refine zL_swd ?_
  exact zL_ret (d_177_216 _ _)
