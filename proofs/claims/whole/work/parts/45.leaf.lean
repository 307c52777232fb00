/-! METHODS with no loop and no call, their answers -/
theorem p_16 {B : zeB} {im : Nat → Nat → Int32} {lm : Nat → Nat → Int64}   : zeRun 16 0 [some (.ref 16)] [] (zk B im lm) = (if (im 17 0) = 0 then (if (im 17 3) = 0 then some (some (.int 1), zk B im lm) else some (some (.int 0), zk B im lm)) else some (some (.int 0), zk B im lm)) := by
  by_cases h0 : (im 17 0) = 0
  · rw [if_pos h0]
    refine (b_16_0_t  h0).trans ?_
    by_cases h1 : (im 17 3) = 0
    · rw [if_pos h1]
      refine (b_16_10_t  h1).trans ?_
      exact b_16_20 _
    · rw [if_neg h1]
      refine (b_16_10_f  h1).trans ?_
      exact b_16_24 _
  · rw [if_neg h0]
    refine (b_16_0_f  h0).trans ?_
    exact b_16_24 _
theorem p_17 {B : zeB} {im : Nat → Nat → Int32} {lm : Nat → Nat → Int64} (l1 : Int32)  : zeRun 17 0 [some (.ref 16), some (.int l1)] [] (zk B im lm) = some (some (.int (-10000003)), zk B (zeU2 im 16 7 l1) lm) := by
  exact b_17_0 _
theorem p_19 {B : zeB} {im : Nat → Nat → Int32} {lm : Nat → Nat → Int64} (l0 : Int32)  : zeRun 19 0 [some (.int l0)] [] (zk B im lm) = (if l0 = (-10000001) then some (some (.int 1), zk B im lm) else (if l0 = (-10000002) then some (some (.int 1), zk B im lm) else (if l0 = (-10000003) then some (some (.int 1), zk B im lm) else (if l0 = (-10000004) then some (some (.int 1), zk B im lm) else some (some (.int 0), zk B im lm))))) := by
  by_cases h0 : l0 = (-10000001)
  · rw [if_pos h0]
    refine (b_19_0_t _ h0).trans ?_
    exact b_19_25 _
  · rw [if_neg h0]
    refine (b_19_0_f _ h0).trans ?_
    by_cases h1 : l0 = (-10000002)
    · rw [if_pos h1]
      refine (b_19_6_t _ h1).trans ?_
      exact b_19_25 _
    · rw [if_neg h1]
      refine (b_19_6_f _ h1).trans ?_
      by_cases h2 : l0 = (-10000003)
      · rw [if_pos h2]
        refine (b_19_12_t _ h2).trans ?_
        exact b_19_25 _
      · rw [if_neg h2]
        refine (b_19_12_f _ h2).trans ?_
        by_cases h3 : l0 = (-10000004)
        · rw [if_pos h3]
          refine (b_19_19_t _ h3).trans ?_
          exact b_19_25 _
        · rw [if_neg h3]
          refine (b_19_19_f _ h3).trans ?_
          exact b_19_29 _
theorem p_20 {B : zeB} {im : Nat → Nat → Int32} {lm : Nat → Nat → Int64}   : zeRun 20 0 [some (.ref 42)] [] (zk B im lm) = (if (im 42 1) = 5 then (if 5 ≤ (im 42 0) then some (none, zk B (zeU2 im 42 1 0) lm) else some (none, zk B (zeU2 (zeU2 im 42 1 0) 42 0 ((im 42 0) + 1)) lm)) else (if 5 ≤ (im 42 0) then some (none, zk B (zeU2 im 42 1 ((im 42 1) + 1)) lm) else some (none, zk B (zeU2 (zeU2 im 42 1 ((im 42 1) + 1)) 42 0 ((im 42 0) + 1)) lm))) := by
  by_cases h0 : (im 42 1) = 5
  · rw [if_pos h0]
    refine (b_20_0_t  h0).trans ?_
    by_cases h1 : 5 ≤ (im 42 0)
    · rw [if_pos h1]
      refine (b_20_9_t  h1).trans ?_
      exact b_20_40 _
    · rw [if_neg h1]
      refine (b_20_9_f  h1).trans ?_
      exact b_20_30 
  · rw [if_neg h0]
    refine (b_20_0_f  h0).trans ?_
    by_cases h2 : 5 ≤ (im 42 0)
    · rw [if_pos h2]
      refine (b_20_13_t  h2).trans ?_
      exact b_20_40 _
    · rw [if_neg h2]
      refine (b_20_13_f  h2).trans ?_
      exact b_20_30 
theorem p_23 {B : zeB} {im : Nat → Nat → Int32} {lm : Nat → Nat → Int64}   : zeRun 23 0 [some (.ref 170)] [] (zk B im lm) = (if (im 171 10) = 0 then (if (im 171 0) = 0 then some (some (.int 0), zk B im lm) else some (some (.int 1), zk B im lm)) else some (some (.int 1), zk B im lm)) := by
  by_cases h0 : (im 171 10) = 0
  · rw [if_pos h0]
    refine (b_23_0_t  h0).trans ?_
    by_cases h1 : (im 171 0) = 0
    · rw [if_pos h1]
      refine (b_23_10_t  h1).trans ?_
      exact b_23_23 _
    · rw [if_neg h1]
      refine (b_23_10_f  h1).trans ?_
      exact b_23_19 _
  · rw [if_neg h0]
    refine (b_23_0_f  h0).trans ?_
    exact b_23_19 _
theorem p_24 {B : zeB} {im : Nat → Nat → Int32} {lm : Nat → Nat → Int64} (l1 : Int32)  : zeRun 24 0 [some (.ref 170), some (.int l1)] [] (zk B im lm) = some (some (.int (-10000003)), zk B (zeU2 im 170 5 l1) lm) := by
  exact b_24_0 _
theorem p_27 {B : zeB} {im : Nat → Nat → Int32} {lm : Nat → Nat → Int64} (l0 : Int32)  : zeRun 27 0 [some (.int l0)] [] (zk B im lm) = (if l0 < 0 then some (some (.int 0), zk B im lm) else (if 25 ≤ l0 then some (some (.int 0), zk B im lm) else some (some (.int 1), zk B im lm))) := by
  by_cases h0 : l0 < 0
  · rw [if_pos h0]
    refine (b_27_0_t _ h0).trans ?_
    exact b_27_14 _
  · rw [if_neg h0]
    refine (b_27_0_f _ h0).trans ?_
    by_cases h1 : 25 ≤ l0
    · rw [if_pos h1]
      refine (b_27_4_t _ h1).trans ?_
      exact b_27_14 _
    · rw [if_neg h1]
      refine (b_27_4_f _ h1).trans ?_
      exact b_27_10 _
theorem p_28 {B : zeB} {im : Nat → Nat → Int32} {lm : Nat → Nat → Int64} (l0 : Int32) (l1 : Int32)  : zeRun 28 0 [some (.int l0), some (.int l1)] [] (zk B im lm) = some (some (.int ((l0 >>> (l1 &&& 31)) &&& 1)), zk B im lm) := by
  exact b_28_0 _ _
theorem p_32 {B : zeB} {im : Nat → Nat → Int32} {lm : Nat → Nat → Int64} (l0 : Int32) (l1 : Int32) (l2 : Int32)  : zeRun 32 0 [some (.int l0), some (.int l1), some (.int l2)] [] (zk B im lm) = (if l0 < l1 then some (some (.int 0), zk B im lm) else (if l2 < l0 then some (some (.int 0), zk B im lm) else some (some (.int 1), zk B im lm))) := by
  by_cases h0 : l0 < l1
  · rw [if_pos h0]
    refine (b_32_0_t _ _ _ h0).trans ?_
    exact b_32_14 _ _ _
  · rw [if_neg h0]
    refine (b_32_0_f _ _ _ h0).trans ?_
    by_cases h1 : l2 < l0
    · rw [if_pos h1]
      refine (b_32_5_t _ _ _ h1).trans ?_
      exact b_32_14 _ _ _
    · rw [if_neg h1]
      refine (b_32_5_f _ _ _ h1).trans ?_
      exact b_32_10 _ _ _
theorem p_35 {B : zeB} {im : Nat → Nat → Int32} {lm : Nat → Nat → Int64} (l1 : Int32) (l2 : Int32) (k0 : zeInb l1 3 = true) : zeRun 35 0 [some (.ref 16), some (.int l1), some (.int l2), none] [] (zk B im lm) = (if l1 < 0 then some (some (.int (-10000001)), zk B im lm) else (if l1 < 3 then (if l2 < 0 then some (some (.int (-10000002)), zk B im lm) else (if l2 ≤ (im 1 (Int32.toNatClampNeg l1)) then some (some (.int (im 18 (Int32.toNatClampNeg l1))), zk B (zeU2 im 18 (Int32.toNatClampNeg l1) l2) lm) else some (some (.int (-10000002)), zk B im lm))) else some (some (.int (-10000001)), zk B im lm))) := by
  by_cases h0 : l1 < 0
  · rw [if_pos h0]
    refine (b_35_0_t _ _ _ h0).trans ?_
    exact b_35_12 _ _ _ _
  · rw [if_neg h0]
    refine (b_35_0_f _ _ _ h0).trans ?_
    by_cases h1 : l1 < 3
    · rw [if_pos h1]
      refine (b_35_4_t _ _ _ h1).trans ?_
      by_cases h2 : l2 < 0
      · rw [if_pos h2]
        refine (b_35_15_t _ _ _ h2).trans ?_
        exact b_35_28 _ _ _ _
      · rw [if_neg h2]
        refine (b_35_15_f _ _ _ h2).trans ?_
        by_cases h3 : l2 ≤ (im 1 (Int32.toNatClampNeg l1))
        · rw [if_pos h3]
          refine (b_35_19_t _ _ _ (by assumption) h3).trans ?_
          exact b_35_31 _ _ _ (by assumption) (by assumption)
        · rw [if_neg h3]
          refine (b_35_19_f _ _ _ (by assumption) h3).trans ?_
          exact b_35_28 _ _ _ _
    · rw [if_neg h1]
      refine (b_35_4_f _ _ _ h1).trans ?_
      exact b_35_12 _ _ _ _
theorem p_38 {B : zeB} {im : Nat → Nat → Int32} {lm : Nat → Nat → Int64} (l1 : Int32)  : zeRun 38 0 [some (.ref 16), some (.int l1)] [] (zk B im lm) = (if l1 < 0 then some (some (.int 0), zk B im lm) else (if (im 17 1) ≤ l1 then some (some (.int 0), zk B im lm) else some (some (.int 1), zk B im lm))) := by
  by_cases h0 : l1 < 0
  · rw [if_pos h0]
    refine (b_38_0_t _ h0).trans ?_
    exact b_38_19 _ _
  · rw [if_neg h0]
    refine (b_38_0_f _ h0).trans ?_
    by_cases h1 : (im 17 1) ≤ l1
    · rw [if_pos h1]
      refine (b_38_4_t _ h1).trans ?_
      exact b_38_19 _ _
    · rw [if_neg h1]
      refine (b_38_4_f _ h1).trans ?_
      exact b_38_15 _ _
theorem p_39 {B : zeB} {im : Nat → Nat → Int32} {lm : Nat → Nat → Int64}   : zeRun 39 0 [some (.ref 16)] [] (zk B im lm) = (if (im 17 1) = 0 then some (some (.int (-10000005)), zk B im lm) else some (some (.int (im 32 0)), zk B im lm)) := by
  by_cases h0 : (im 17 1) = 0
  · rw [if_pos h0]
    refine (b_39_0_t  h0).trans ?_
    exact b_39_10 _
  · rw [if_neg h0]
    refine (b_39_0_f  h0).trans ?_
    exact b_39_15 
theorem p_41 {B : zeB} {im : Nat → Nat → Int32} {lm : Nat → Nat → Int64} (l0 : Int32)  : zeRun 41 0 [some (.int l0)] [] (zk B im lm) = some (some (.int (100 * ((l0 / 5) + 1))), zk B im lm) := by
  exact b_41_0 _
theorem p_45 {B : zeB} {im : Nat → Nat → Int32} {lm : Nat → Nat → Int64} (l0 : Int32)  : zeRun 45 0 [some (.int l0)] [] (zk B im lm) = some (some (.int (60 + (5 * l0))), zk B im lm) := by
  exact b_45_0 _
theorem p_49 {B : zeB} {im : Nat → Nat → Int32} {lm : Nat → Nat → Int64} (l0 : Int32)  : zeRun 49 0 [some (.int l0)] [] (zk B im lm) = some (some (.int (100 * ((l0 / 5) + 1))), zk B im lm) := by
  exact b_49_0 _
theorem p_52 {B : zeB} {im : Nat → Nat → Int32} {lm : Nat → Nat → Int64} (l1 : Int32) (l2 : Int32) (k0 : zeInb l1 6 = true) : zeRun 52 0 [some (.ref 19), some (.int l1), some (.int l2), none, none] [] (zk B im lm) = (if 64 ≤ l2 then (if (lg_cmp ((zflshr (lm 22 (Int32.toNatClampNeg l1)) (zfirem l2 64)) &&& 1) 1) = 0 then some (some (.int 1), zk B im lm) else some (some (.int 0), zk B im lm)) else (if (lg_cmp ((zflshr (lm 21 (Int32.toNatClampNeg l1)) (zfirem l2 64)) &&& 1) 1) = 0 then some (some (.int 1), zk B im lm) else some (some (.int 0), zk B im lm))) := by
  by_cases h0 : 64 ≤ l2
  · rw [if_pos h0]
    refine (b_52_0_t _ _ _ _ h0).trans ?_
    by_cases h1 : (lg_cmp ((zflshr (lm 22 (Int32.toNatClampNeg l1)) (zfirem l2 64)) &&& 1) 1) = 0
    · rw [if_pos h1]
      refine (b_52_15_t _ _ _ _ (by assumption) h1).trans ?_
      exact b_52_35 _ _ _ _ _
    · rw [if_neg h1]
      refine (b_52_15_f _ _ _ _ (by assumption) h1).trans ?_
      exact b_52_39 _ _ _ _ _
  · rw [if_neg h0]
    refine (b_52_0_f _ _ _ _ h0).trans ?_
    by_cases h2 : (lg_cmp ((zflshr (lm 21 (Int32.toNatClampNeg l1)) (zfirem l2 64)) &&& 1) 1) = 0
    · rw [if_pos h2]
      refine (b_52_6_t _ _ _ _ (by assumption) h2).trans ?_
      exact b_52_35 _ _ _ _ _
    · rw [if_neg h2]
      refine (b_52_6_f _ _ _ _ (by assumption) h2).trans ?_
      exact b_52_39 _ _ _ _ _
theorem p_60 {B : zeB} {im : Nat → Nat → Int32} {lm : Nat → Nat → Int64} (l1 : Int32) (l2 : Int32) (k0 : zeInb ((30 + (4 * l1)) + (l2 / 25)) 360 = true) : zeRun 60 0 [some (.ref 170), some (.int l1), some (.int l2)] [] (zk B im lm) = (if (((im 171 (Int32.toNatClampNeg ((30 + (4 * l1)) + (l2 / 25)))) >>> ((zfirem l2 25) &&& 31)) &&& 1) = 1 then some (some (.int 1), zk B im lm) else some (some (.int 0), zk B im lm)) := by
  by_cases h0 : (((im 171 (Int32.toNatClampNeg ((30 + (4 * l1)) + (l2 / 25)))) >>> ((zfirem l2 25) &&& 31)) &&& 1) = 1
  · rw [if_pos h0]
    refine (b_60_0_t _ _ (by assumption) h0).trans ?_
    exact b_60_27 _ _ _
  · rw [if_neg h0]
    refine (b_60_0_f _ _ (by assumption) h0).trans ?_
    exact b_60_31 _ _ _
theorem p_67 {B : zeB} {im : Nat → Nat → Int32} {lm : Nat → Nat → Int64} (l1 : Int32) (l2 : Int32) (k0 : zeInb l1 6 = true) (k1 : zeInb l2 6 = true) : zeRun 67 0 [some (.ref 16), some (.int l1), some (.int l2), none, none] [] (zk B im lm) = (if (im 20 (Int32.toNatClampNeg l1)) = (im 20 (Int32.toNatClampNeg l2)) then (if (im 33 (Int32.toNatClampNeg l1)) = (im 33 (Int32.toNatClampNeg l2)) then (if l2 ≤ l1 then some (some (.int 0), zk B im lm) else some (some (.int 1), zk B im lm)) else (if (im 33 (Int32.toNatClampNeg l2)) ≤ (im 33 (Int32.toNatClampNeg l1)) then some (some (.int 0), zk B im lm) else some (some (.int 1), zk B im lm))) else (if (im 20 (Int32.toNatClampNeg l2)) ≤ (im 20 (Int32.toNatClampNeg l1)) then some (some (.int 0), zk B im lm) else some (some (.int 1), zk B im lm))) := by
  by_cases h0 : (im 20 (Int32.toNatClampNeg l1)) = (im 20 (Int32.toNatClampNeg l2))
  · rw [if_pos h0]
    refine (b_67_0_t _ _ _ _ (by assumption) (by assumption) h0).trans ?_
    by_cases h1 : (im 33 (Int32.toNatClampNeg l1)) = (im 33 (Int32.toNatClampNeg l2))
    · rw [if_pos h1]
      refine (b_67_45_t _ _ _ _ (by assumption) (by assumption) h1).trans ?_
      by_cases h2 : l2 ≤ l1
      · rw [if_pos h2]
        refine (b_67_93_t _ _ _ _ _ h2).trans ?_
        exact b_67_102 _ _ _ _ _
      · rw [if_neg h2]
        refine (b_67_93_f _ _ _ _ _ h2).trans ?_
        exact b_67_98 _ _ _ _ _
    · rw [if_neg h1]
      refine (b_67_45_f _ _ _ _ (by assumption) (by assumption) h1).trans ?_
      by_cases h3 : (im 33 (Int32.toNatClampNeg l2)) ≤ (im 33 (Int32.toNatClampNeg l1))
      · rw [if_pos h3]
        refine (b_67_66_t _ _ _ _ (by assumption) (by assumption) h3).trans ?_
        exact b_67_91 _ _ _ _ _
      · rw [if_neg h3]
        refine (b_67_66_f _ _ _ _ (by assumption) (by assumption) h3).trans ?_
        exact b_67_87 _ _ _ _ _
  · rw [if_neg h0]
    refine (b_67_0_f _ _ _ _ (by assumption) (by assumption) h0).trans ?_
    by_cases h4 : (im 20 (Int32.toNatClampNeg l2)) ≤ (im 20 (Int32.toNatClampNeg l1))
    · rw [if_pos h4]
      refine (b_67_33_t _ _ _ _ _ h4).trans ?_
      exact b_67_43 _ _ _ _ _
    · rw [if_neg h4]
      refine (b_67_33_f _ _ _ _ _ h4).trans ?_
      exact b_67_39 _ _ _ _ _
theorem p_70 {B : zeB} {im : Nat → Nat → Int32} {lm : Nat → Nat → Int64}   : zeRun 70 0 [some (.ref 26)] [] (zk B im lm) = (if (im 26 0) < 60 then some (some (.int 0), zk B im lm) else some (some (.int 1), zk B im lm)) := by
  by_cases h0 : (im 26 0) < 60
  · rw [if_pos h0]
    refine (b_70_0_t  h0).trans ?_
    exact b_70_13 _
  · rw [if_neg h0]
    refine (b_70_0_f  h0).trans ?_
    exact b_70_9 _
theorem p_73 {B : zeB} {im : Nat → Nat → Int32} {lm : Nat → Nat → Int64} (l0 : Int32) (l1 : Int32) (l2 : Int32)  : zeRun 73 0 [some (.int l0), some (.int l1), some (.int l2)] [] (zk B im lm) = (if l1 = 2 then some (some (.int (if (if l2 < 500 then 500 else l2) < l0 then (if l2 < 500 then 500 else l2) else l0)), zk B im lm) else (if l1 = 3 then some (some (.int (if (if l2 < 0 then 0 else l2) < l0 then (if l2 < 0 then 0 else l2) else l0)), zk B im lm) else some (some (.int l0), zk B im lm))) := by
  by_cases h0 : l1 = 2
  · rw [if_pos h0]
    refine (b_73_0_t _ _ _ h0).trans ?_
    exact b_73_5 _ _ _
  · rw [if_neg h0]
    refine (b_73_0_f _ _ _ h0).trans ?_
    by_cases h1 : l1 = 3
    · rw [if_pos h1]
      refine (b_73_17_t _ _ _ h1).trans ?_
      exact b_73_22 _ _ _
    · rw [if_neg h1]
      refine (b_73_17_f _ _ _ h1).trans ?_
      exact b_73_32 _ _ _
theorem p_80 {B : zeB} {im : Nat → Nat → Int32} {lm : Nat → Nat → Int64} (l1 : Int32) (l2 : Int32) (k0 : zeInb l1 6 = true) (k1 : zeInb l2 6 = true) : zeRun 80 0 [some (.ref 23), some (.int l1), some (.int l2)] [] (zk B im lm) = (if (im 24 (Int32.toNatClampNeg l1)) = (im 24 (Int32.toNatClampNeg l2)) then (if l2 ≤ l1 then some (some (.int 0), zk B im lm) else some (some (.int 1), zk B im lm)) else (if (im 24 (Int32.toNatClampNeg l2)) ≤ (im 24 (Int32.toNatClampNeg l1)) then some (some (.int 0), zk B im lm) else some (some (.int 1), zk B im lm))) := by
  by_cases h0 : (im 24 (Int32.toNatClampNeg l1)) = (im 24 (Int32.toNatClampNeg l2))
  · rw [if_pos h0]
    refine (b_80_0_t _ _ (by assumption) (by assumption) h0).trans ?_
    by_cases h1 : l2 ≤ l1
    · rw [if_pos h1]
      refine (b_80_36_t _ _ _ h1).trans ?_
      exact b_80_45 _ _ _
    · rw [if_neg h1]
      refine (b_80_36_f _ _ _ h1).trans ?_
      exact b_80_41 _ _ _
  · rw [if_neg h0]
    refine (b_80_0_f _ _ (by assumption) (by assumption) h0).trans ?_
    by_cases h2 : (im 24 (Int32.toNatClampNeg l2)) ≤ (im 24 (Int32.toNatClampNeg l1))
    · rw [if_pos h2]
      refine (b_80_15_t _ _ (by assumption) (by assumption) h2).trans ?_
      exact b_80_34 _ _ _
    · rw [if_neg h2]
      refine (b_80_15_f _ _ (by assumption) (by assumption) h2).trans ?_
      exact b_80_30 _ _ _
theorem p_107 {B : zeB} {im : Nat → Nat → Int32} {lm : Nat → Nat → Int64} (l1 : Int32) (k0 : zeInb l1 6 = true) : zeRun 107 0 [some (.ref 23), some (.int l1)] [] (zk B im lm) = (if (im 24 (Int32.toNatClampNeg l1)) ≤ 0 then some (some (.int 0), zk B im lm) else (if (im 25 (Int32.toNatClampNeg l1)) = (-10000005) then some (some (.int 1), zk B im lm) else some (some (.int 0), zk B im lm))) := by
  by_cases h0 : (im 24 (Int32.toNatClampNeg l1)) ≤ 0
  · rw [if_pos h0]
    refine (b_107_0_t _ (by assumption) h0).trans ?_
    exact b_107_24 _ _
  · rw [if_neg h0]
    refine (b_107_0_f _ (by assumption) h0).trans ?_
    by_cases h1 : (im 25 (Int32.toNatClampNeg l1)) = (-10000005)
    · rw [if_pos h1]
      refine (b_107_9_t _ (by assumption) h1).trans ?_
      exact b_107_20 _ _
    · rw [if_neg h1]
      refine (b_107_9_f _ (by assumption) h1).trans ?_
      exact b_107_24 _ _
theorem p_112 {B : zeB} {im : Nat → Nat → Int32} {lm : Nat → Nat → Int64} (l0 : Int32)  : zeRun 112 0 [some (.int l0)] [] (zk B im lm) = (if l0 ≤ 0 then some (some (.int l0), zk B im lm) else some (some (.int (2 * l0)), zk B im lm)) := by
  by_cases h0 : l0 ≤ 0
  · rw [if_pos h0]
    refine (b_112_0_t _ h0).trans ?_
    exact b_112_10 _
  · rw [if_neg h0]
    refine (b_112_0_f _ h0).trans ?_
    exact b_112_4 _
theorem p_118 {B : zeB} {im : Nat → Nat → Int32} {lm : Nat → Nat → Int64} (l1 : Int32)  : zeRun 118 0 [some (.ref 16), some (.int l1)] [] (zk B im lm) = (if l1 < 0 then some (some (.int 0), zk B im lm) else (if (im 26 0) ≤ l1 then some (some (.int 0), zk B im lm) else some (some (.int 1), zk B im lm))) := by
  by_cases h0 : l1 < 0
  · rw [if_pos h0]
    refine (b_118_0_t _ h0).trans ?_
    exact b_118_22 _ _
  · rw [if_neg h0]
    refine (b_118_0_f _ h0).trans ?_
    by_cases h1 : (im 26 0) ≤ l1
    · rw [if_pos h1]
      refine (b_118_4_t _ h1).trans ?_
      exact b_118_22 _ _
    · rw [if_neg h1]
      refine (b_118_4_f _ h1).trans ?_
      exact b_118_18 _ _
theorem p_125 {B : zeB} {im : Nat → Nat → Int32} {lm : Nat → Nat → Int64} (l1 : Int32) (k0 : zeInb (im 166 0) 70 = true) : zeRun 125 0 [some (.ref 166), some (.int l1)] [] (zk B im lm) = (if (im 166 0) < 70 then some (some (.int 1), zk B (zeU2 (zeU2 im 167 (Int32.toNatClampNeg (im 166 0)) (vp_nar .char l1)) 166 0 ((im 166 0) + 1)) lm) else some (some (.int 0), zk B im lm)) := by
  by_cases h0 : (im 166 0) < 70
  · rw [if_pos h0]
    refine (b_125_0_t _ h0).trans ?_
    exact b_125_11 _ (by assumption)
  · rw [if_neg h0]
    refine (b_125_0_f _ h0).trans ?_
    exact b_125_9 _ _
theorem p_127 {B : zeB} {im : Nat → Nat → Int32} {lm : Nat → Nat → Int64} (l1 : Int32) (k0 : zeInb (im 170 16) 70 = true) : zeRun 127 0 [some (.ref 170), some (.int l1)] [] (zk B im lm) = (if (im 170 16) = 70 then some (some (.int (-10000004)), zk B im lm) else some (some (.int ((im 170 16) + 1)), zk B (zeU2 (zeU2 im 184 (Int32.toNatClampNeg (im 170 16)) (vp_nar .char l1)) 170 16 ((im 170 16) + 1)) lm)) := by
  by_cases h0 : (im 170 16) = 70
  · rw [if_pos h0]
    refine (b_127_0_t _ h0).trans ?_
    exact b_127_9 _ _
  · rw [if_neg h0]
    refine (b_127_0_f _ h0).trans ?_
    exact b_127_12 _ (by assumption)
theorem p_128 {B : zeB} {im : Nat → Nat → Int32} {lm : Nat → Nat → Int64}   : zeRun 128 0 [some (.ref 16), none] [] (zk B im lm) = some (some (.int (im 166 0)), zk B (zeU2 im 166 0 0) lm) := by
  exact b_128_0 _
theorem p_129 {B : zeB} {im : Nat → Nat → Int32} {lm : Nat → Nat → Int64}   : zeRun 129 0 [some (.ref 170), none] [] (zk B im lm) = some (some (.int (im 170 16)), zk B (zeU2 im 170 16 0) lm) := by
  exact b_129_0 _
theorem p_130 {B : zeB} {im : Nat → Nat → Int32} {lm : Nat → Nat → Int64} (l1 : Int32) (k0 : zeInb l1 70 = true) (k1 : zeNok FieldType.char (im 167 (Int32.toNatClampNeg l1)) = true) : zeRun 130 0 [some (.ref 166), some (.int l1)] [] (zk B im lm) = (if l1 < 0 then some (some (.int 32), zk B im lm) else (if (im 166 0) ≤ l1 then some (some (.int 32), zk B im lm) else some (some (.int (im 167 (Int32.toNatClampNeg l1))), zk B im lm))) := by
  by_cases h0 : l1 < 0
  · rw [if_pos h0]
    refine (b_130_0_t _ h0).trans ?_
    exact b_130_21 _ _
  · rw [if_neg h0]
    refine (b_130_0_f _ h0).trans ?_
    by_cases h1 : (im 166 0) ≤ l1
    · rw [if_pos h1]
      refine (b_130_4_t _ h1).trans ?_
      exact b_130_21 _ _
    · rw [if_neg h1]
      refine (b_130_4_f _ h1).trans ?_
      exact b_130_12 _ (by assumption) (by assumption)
theorem p_148 {B : zeB} {im : Nat → Nat → Int32} {lm : Nat → Nat → Int64} (l0 : Int32)  : zeRun 148 0 [some (.int l0)] [] (zk B im lm) = (if l0 < 0 then some (some (.int 0), zk B im lm) else (if 2 ≤ l0 then some (some (.int 0), zk B im lm) else some (some (.int 1), zk B im lm))) := by
  by_cases h0 : l0 < 0
  · rw [if_pos h0]
    refine (b_148_0_t _ h0).trans ?_
    exact b_148_13 _
  · rw [if_neg h0]
    refine (b_148_0_f _ h0).trans ?_
    by_cases h1 : 2 ≤ l0
    · rw [if_pos h1]
      refine (b_148_4_t _ h1).trans ?_
      exact b_148_13 _
    · rw [if_neg h1]
      refine (b_148_4_f _ h1).trans ?_
      exact b_148_9 _
theorem p_154 {B : zeB} {im : Nat → Nat → Int32} {lm : Nat → Nat → Int64} (l1 : Int32) (l2 : Int32) (k0 : zeInb l1 6 = true) (k1 : zeInb l2 6 = true) : zeRun 154 0 [some (.ref 32), some (.int l1), some (.int l2)] [] (zk B im lm) = (if (im 33 (Int32.toNatClampNeg l1)) = (im 33 (Int32.toNatClampNeg l2)) then (if (im 34 (Int32.toNatClampNeg l1)) = (im 34 (Int32.toNatClampNeg l2)) then (if (im 35 (Int32.toNatClampNeg l1)) = (im 35 (Int32.toNatClampNeg l2)) then (if l2 ≤ l1 then some (some (.int 0), zk B im lm) else some (some (.int 1), zk B im lm)) else (if (im 35 (Int32.toNatClampNeg l2)) ≤ (im 35 (Int32.toNatClampNeg l1)) then some (some (.int 0), zk B im lm) else some (some (.int 1), zk B im lm))) else (if (im 34 (Int32.toNatClampNeg l1)) ≤ (im 34 (Int32.toNatClampNeg l2)) then some (some (.int 0), zk B im lm) else some (some (.int 1), zk B im lm))) else (if (im 33 (Int32.toNatClampNeg l1)) ≤ (im 33 (Int32.toNatClampNeg l2)) then some (some (.int 0), zk B im lm) else some (some (.int 1), zk B im lm))) := by
  by_cases h0 : (im 33 (Int32.toNatClampNeg l1)) = (im 33 (Int32.toNatClampNeg l2))
  · rw [if_pos h0]
    refine (b_154_0_t _ _ (by assumption) (by assumption) h0).trans ?_
    by_cases h1 : (im 34 (Int32.toNatClampNeg l1)) = (im 34 (Int32.toNatClampNeg l2))
    · rw [if_pos h1]
      refine (b_154_36_t _ _ (by assumption) (by assumption) h1).trans ?_
      by_cases h2 : (im 35 (Int32.toNatClampNeg l1)) = (im 35 (Int32.toNatClampNeg l2))
      · rw [if_pos h2]
        refine (b_154_72_t _ _ (by assumption) (by assumption) h2).trans ?_
        by_cases h3 : l2 ≤ l1
        · rw [if_pos h3]
          refine (b_154_108_t _ _ _ h3).trans ?_
          exact b_154_117 _ _ _
        · rw [if_neg h3]
          refine (b_154_108_f _ _ _ h3).trans ?_
          exact b_154_113 _ _ _
      · rw [if_neg h2]
        refine (b_154_72_f _ _ (by assumption) (by assumption) h2).trans ?_
        by_cases h4 : (im 35 (Int32.toNatClampNeg l2)) ≤ (im 35 (Int32.toNatClampNeg l1))
        · rw [if_pos h4]
          refine (b_154_87_t _ _ (by assumption) (by assumption) h4).trans ?_
          exact b_154_106 _ _ _
        · rw [if_neg h4]
          refine (b_154_87_f _ _ (by assumption) (by assumption) h4).trans ?_
          exact b_154_102 _ _ _
    · rw [if_neg h1]
      refine (b_154_36_f _ _ (by assumption) (by assumption) h1).trans ?_
      by_cases h5 : (im 34 (Int32.toNatClampNeg l1)) ≤ (im 34 (Int32.toNatClampNeg l2))
      · rw [if_pos h5]
        refine (b_154_51_t _ _ (by assumption) (by assumption) h5).trans ?_
        exact b_154_70 _ _ _
      · rw [if_neg h5]
        refine (b_154_51_f _ _ (by assumption) (by assumption) h5).trans ?_
        exact b_154_66 _ _ _
  · rw [if_neg h0]
    refine (b_154_0_f _ _ (by assumption) (by assumption) h0).trans ?_
    by_cases h6 : (im 33 (Int32.toNatClampNeg l1)) ≤ (im 33 (Int32.toNatClampNeg l2))
    · rw [if_pos h6]
      refine (b_154_15_t _ _ (by assumption) (by assumption) h6).trans ?_
      exact b_154_34 _ _ _
    · rw [if_neg h6]
      refine (b_154_15_f _ _ (by assumption) (by assumption) h6).trans ?_
      exact b_154_30 _ _ _
theorem p_158 {B : zeB} {im : Nat → Nat → Int32} {lm : Nat → Nat → Int64} (l1 : Int32) (l2 : Int32) (k0 : zeInb l1 6 = true) (k1 : zeInb l2 6 = true) : zeRun 158 0 [some (.ref 170), some (.int l1), some (.int l2)] [] (zk B im lm) = (if (im 175 (Int32.toNatClampNeg l1)) = (im 175 (Int32.toNatClampNeg l2)) then (if (im 179 (Int32.toNatClampNeg l1)) = (im 179 (Int32.toNatClampNeg l2)) then (if (im 180 (Int32.toNatClampNeg l1)) = (im 180 (Int32.toNatClampNeg l2)) then (if l2 ≤ l1 then some (some (.int 0), zk B im lm) else some (some (.int 1), zk B im lm)) else (if (im 180 (Int32.toNatClampNeg l2)) ≤ (im 180 (Int32.toNatClampNeg l1)) then some (some (.int 0), zk B im lm) else some (some (.int 1), zk B im lm))) else (if (im 179 (Int32.toNatClampNeg l1)) ≤ (im 179 (Int32.toNatClampNeg l2)) then some (some (.int 0), zk B im lm) else some (some (.int 1), zk B im lm))) else (if (im 175 (Int32.toNatClampNeg l1)) ≤ (im 175 (Int32.toNatClampNeg l2)) then some (some (.int 0), zk B im lm) else some (some (.int 1), zk B im lm))) := by
  by_cases h0 : (im 175 (Int32.toNatClampNeg l1)) = (im 175 (Int32.toNatClampNeg l2))
  · rw [if_pos h0]
    refine (b_158_0_t _ _ (by assumption) (by assumption) h0).trans ?_
    by_cases h1 : (im 179 (Int32.toNatClampNeg l1)) = (im 179 (Int32.toNatClampNeg l2))
    · rw [if_pos h1]
      refine (b_158_36_t _ _ (by assumption) (by assumption) h1).trans ?_
      by_cases h2 : (im 180 (Int32.toNatClampNeg l1)) = (im 180 (Int32.toNatClampNeg l2))
      · rw [if_pos h2]
        refine (b_158_72_t _ _ (by assumption) (by assumption) h2).trans ?_
        by_cases h3 : l2 ≤ l1
        · rw [if_pos h3]
          refine (b_158_110_t _ _ _ h3).trans ?_
          exact b_158_119 _ _ _
        · rw [if_neg h3]
          refine (b_158_110_f _ _ _ h3).trans ?_
          exact b_158_115 _ _ _
      · rw [if_neg h2]
        refine (b_158_72_f _ _ (by assumption) (by assumption) h2).trans ?_
        by_cases h4 : (im 180 (Int32.toNatClampNeg l2)) ≤ (im 180 (Int32.toNatClampNeg l1))
        · rw [if_pos h4]
          refine (b_158_87_t _ _ (by assumption) (by assumption) h4).trans ?_
          exact b_158_106 _ _ _
        · rw [if_neg h4]
          refine (b_158_87_f _ _ (by assumption) (by assumption) h4).trans ?_
          exact b_158_102 _ _ _
    · rw [if_neg h1]
      refine (b_158_36_f _ _ (by assumption) (by assumption) h1).trans ?_
      by_cases h5 : (im 179 (Int32.toNatClampNeg l1)) ≤ (im 179 (Int32.toNatClampNeg l2))
      · rw [if_pos h5]
        refine (b_158_51_t _ _ (by assumption) (by assumption) h5).trans ?_
        exact b_158_70 _ _ _
      · rw [if_neg h5]
        refine (b_158_51_f _ _ (by assumption) (by assumption) h5).trans ?_
        exact b_158_66 _ _ _
  · rw [if_neg h0]
    refine (b_158_0_f _ _ (by assumption) (by assumption) h0).trans ?_
    by_cases h6 : (im 175 (Int32.toNatClampNeg l1)) ≤ (im 175 (Int32.toNatClampNeg l2))
    · rw [if_pos h6]
      refine (b_158_15_t _ _ (by assumption) (by assumption) h6).trans ?_
      exact b_158_34 _ _ _
    · rw [if_neg h6]
      refine (b_158_15_f _ _ (by assumption) (by assumption) h6).trans ?_
      exact b_158_30 _ _ _
theorem p_160 {B : zeB} {im : Nat → Nat → Int32} {lm : Nat → Nat → Int64} (l0 : Int32)  : zeRun 160 0 [some (.int l0)] [] (zk B im lm) = (if 0 ≤ l0 then some (some (.int l0), zk B im lm) else some (some (.int (-10000005)), zk B im lm)) := by
  by_cases h0 : 0 ≤ l0
  · rw [if_pos h0]
    refine (b_160_0_t _ h0).trans ?_
    exact b_160_9 _
  · rw [if_neg h0]
    refine (b_160_0_f _ h0).trans ?_
    exact b_160_4 _
theorem p_174 {B : zeB} {im : Nat → Nat → Int32} {lm : Nat → Nat → Int64}   : zeRun 174 0 [some (.ref 16)] [] (zk B im lm) = (if (im 17 0) = 1 then some (some (.int 1), zk B im lm) else (if (im 17 0) = 2 then some (some (.int 1), zk B im lm) else (if (im 17 0) = 3 then some (some (.int 1), zk B im lm) else some (some (.int 0), zk B im lm)))) := by
  by_cases h0 : (im 17 0) = 1
  · rw [if_pos h0]
    refine (b_174_0_t  h0).trans ?_
    exact b_174_33 _
  · rw [if_neg h0]
    refine (b_174_0_f  h0).trans ?_
    by_cases h1 : (im 17 0) = 2
    · rw [if_pos h1]
      refine (b_174_11_t  h1).trans ?_
      exact b_174_33 _
    · rw [if_neg h1]
      refine (b_174_11_f  h1).trans ?_
      by_cases h2 : (im 17 0) = 3
      · rw [if_pos h2]
        refine (b_174_22_t  h2).trans ?_
        exact b_174_33 _
      · rw [if_neg h2]
        refine (b_174_22_f  h2).trans ?_
        exact b_174_37 _
theorem p_209 {B : zeB} {im : Nat → Nat → Int32} {lm : Nat → Nat → Int64} (l1 : Int32) (k0 : zeInb (im 170 20) 160 = true) : zeRun 209 0 [some (.ref 170), some (.int l1)] [] (zk B im lm) = some (none, zk B (zeU2 (zeU2 im 186 (Int32.toNatClampNeg (im 170 20)) l1) 170 20 ((im 170 20) + 1)) lm) := by
  exact b_209_0 _ (by assumption)
