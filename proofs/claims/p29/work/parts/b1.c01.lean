/-! constructors 1 -/
def rC_15 (rm : zRm) : zRm := zeU2 (zeU2 (zeU2 (zeU2 (zeU2 (rm) 83 1 (some 84)) 83 2 (some 85)) 83 3 (some 86)) 83 4 (some 87)) 83 5 (some 88)
def iC_15 (im : zI) : zI := im
theorem cq_15 {len : Nat} (sl : Nat) (rm : zRm) (im : zI) (lm : zJ) (hz : Zs 68 rm im lm) : zeRun 2 0 [some (.ref 83)] [] (zc len 68 sl rm im lm) = some (none, zc len 73 (sl + 60 + 60 + 60 + 60 + 60) (rC_15 rm) (iC_15 im) lm) ∧ Zs 73 (rC_15 rm) (iC_15 im) lm := by
  refine ⟨?_, (Zs_r (Zs_r (Zs_r (Zs_r (Zs_r (Zs_m hz (by decide)) (by decide)) (by decide)) (by decide)) (by decide)) (by decide))⟩
  refine Eq.trans (zx_go (t := zt_2) (pc' := 7) (L' := [some (.ref 83)]) (st' := [.int 60, .ref 83]) (μ' := zc len 68 (sl) (rm) (im) lm) rfl 4 rfl) ?_
  refine Eq.trans (zx_newa (t := zt_2) (pc := 7) (pc' := 9) (len := len) (n := 68) (k := 60) rfl rfl (Zs_m hz (by decide)) rfl rfl (by decide)) ?_
  refine Eq.trans (zx_go (t := zt_2) (pc' := 15) (L' := [some (.ref 83)]) (st' := [.int 60, .ref 83]) (μ' := zc len 69 (sl + 60) (zeU2 (rm) 83 1 (some 84)) (im) lm) rfl 3 rfl) ?_
  refine Eq.trans (zx_newa (t := zt_2) (pc := 15) (pc' := 17) (len := len) (n := 69) (k := 60) rfl rfl (Zs_r (Zs_m hz (by decide)) (by decide)) rfl rfl (by decide)) ?_
  refine Eq.trans (zx_go (t := zt_2) (pc' := 23) (L' := [some (.ref 83)]) (st' := [.int 60, .ref 83]) (μ' := zc len 70 (sl + 60 + 60) (zeU2 (zeU2 (rm) 83 1 (some 84)) 83 2 (some 85)) (im) lm) rfl 3 rfl) ?_
  refine Eq.trans (zx_newa (t := zt_2) (pc := 23) (pc' := 25) (len := len) (n := 70) (k := 60) rfl rfl (Zs_r (Zs_r (Zs_m hz (by decide)) (by decide)) (by decide)) rfl rfl (by decide)) ?_
  refine Eq.trans (zx_go (t := zt_2) (pc' := 31) (L' := [some (.ref 83)]) (st' := [.int 60, .ref 83]) (μ' := zc len 71 (sl + 60 + 60 + 60) (zeU2 (zeU2 (zeU2 (rm) 83 1 (some 84)) 83 2 (some 85)) 83 3 (some 86)) (im) lm) rfl 3 rfl) ?_
  refine Eq.trans (zx_newa (t := zt_2) (pc := 31) (pc' := 33) (len := len) (n := 71) (k := 60) rfl rfl (Zs_r (Zs_r (Zs_r (Zs_m hz (by decide)) (by decide)) (by decide)) (by decide)) rfl rfl (by decide)) ?_
  refine Eq.trans (zx_go (t := zt_2) (pc' := 39) (L' := [some (.ref 83)]) (st' := [.int 60, .ref 83]) (μ' := zc len 72 (sl + 60 + 60 + 60 + 60) (zeU2 (zeU2 (zeU2 (zeU2 (rm) 83 1 (some 84)) 83 2 (some 85)) 83 3 (some 86)) 83 4 (some 87)) (im) lm) rfl 3 rfl) ?_
  refine Eq.trans (zx_newa (t := zt_2) (pc := 39) (pc' := 41) (len := len) (n := 72) (k := 60) rfl rfl (Zs_r (Zs_r (Zs_r (Zs_r (Zs_m hz (by decide)) (by decide)) (by decide)) (by decide)) (by decide)) rfl rfl (by decide)) ?_
  exact zx_ret (t := zt_2) rfl 2 rfl
theorem rj_15 {rm : zRm} (h : RJ rm) : RJ (rC_15 rm) := RJ_u (RJ_u (RJ_u (RJ_u (RJ_u (h) (by decide)) (by decide)) (by decide)) (by decide)) (by decide)
def rC_16 (rm : zRm) : zRm := zeU2 (rC_15 (zeU2 (rC_14 (zeU2 (rC_13 (zeU2 (rm) 74 4 (some 75))) 74 5 (some 76))) 74 6 (some 80))) 74 7 (some 83)
def iC_16 (im : zI) : zI := iC_15 (iC_14 (iC_13 (zeU2 (zeU2 (zeU2 (im) 75 0 10) 75 1 5) 75 2 50)))
theorem cq_16 {len : Nat} (sl : Nat) (rm : zRm) (im : zI) (lm : zJ) (hz : Zs 59 rm im lm) : zeRun 3 0 [some (.ref 74)] [] (zc len 59 sl rm im lm) = some (none, zc len 73 (sl + 3 + 8 + 6 + 6 + 6 + 3 + 6 + 6 + 6 + 60 + 60 + 60 + 60 + 60) (rC_16 rm) (iC_16 im) lm) ∧ Zs 73 (rC_16 rm) (iC_16 im) lm := by
  obtain ⟨e5, hz5⟩ := cq_13 (len := len) (sl + 3 + 8) (zeU2 (rm) 74 4 (some 75)) (zeU2 (zeU2 (zeU2 (im) 75 0 10) 75 1 5) 75 2 50) lm (Zs_r (Zs_i (Zs_i (Zs_i (Zs_m hz (by decide)) (by decide)) (by decide)) (by decide)) (by decide))
  obtain ⟨e10, hz10⟩ := cq_14 (len := len) (sl + 3 + 8 + 6 + 6 + 6 + 3) (zeU2 (rC_13 (zeU2 (rm) 74 4 (some 75))) 74 5 (some 76)) (iC_13 (zeU2 (zeU2 (zeU2 (im) 75 0 10) 75 1 5) 75 2 50)) lm (Zs_r (Zs_m hz5 (by decide)) (by decide))
  obtain ⟨e15, hz15⟩ := cq_15 (len := len) (sl + 3 + 8 + 6 + 6 + 6 + 3 + 6 + 6 + 6) (zeU2 (rC_14 (zeU2 (rC_13 (zeU2 (rm) 74 4 (some 75))) 74 5 (some 76))) 74 6 (some 80)) (iC_14 (iC_13 (zeU2 (zeU2 (zeU2 (im) 75 0 10) 75 1 5) 75 2 50))) lm (Zs_r (Zs_m hz10 (by decide)) (by decide))
  refine ⟨?_, (Zs_r (Zs_m hz15 (by decide)) (by decide))⟩
  refine Eq.trans (zx_go (t := zt_3) (pc' := 6) (L' := [some (.ref 74)]) (st' := [.int 3, .ref 74]) (μ' := zc len 59 (sl) (rm) (im) lm) rfl 4 rfl) ?_
  refine Eq.trans (zx_newa (t := zt_3) (pc := 6) (pc' := 8) (len := len) (n := 59) (k := 3) rfl rfl (Zs_m hz (by decide)) rfl rfl (by decide)) ?_
  refine Eq.trans (zx_go (t := zt_3) (pc' := 22) (L' := [some (.ref 74)]) (st' := [.ref 75, .ref 74]) (μ' := zc len 60 (sl + 3) (rm) (zeU2 (zeU2 (zeU2 (im) 75 0 10) 75 1 5) 75 2 50) lm) rfl 12 rfl) ?_
  refine Eq.trans (zx_go (t := zt_3) (pc' := 26) (L' := [some (.ref 74)]) (st' := [.ref 74]) (μ' := zc len 60 (sl + 3) (zeU2 (rm) 74 4 (some 75)) (zeU2 (zeU2 (zeU2 (im) 75 0 10) 75 1 5) 75 2 50) lm) rfl 2 rfl) ?_
  refine Eq.trans (zx_new (t := zt_3) (pc := 26) (pc' := 29) (len := len) (n := 60) rfl rfl (Zs_r (Zs_i (Zs_i (Zs_i (Zs_m hz (by decide)) (by decide)) (by decide)) (by decide)) (by decide)) rfl rfl) ?_
  refine Eq.trans (zx_call (t := zt_3) (j := 0) (pc' := 33) (L' := [some (.ref 74)]) (L2 := [some (.ref 76)]) (st' := [.ref 76, .ref 74]) (μ' := zc len 61 (sl + 3 + 8) (zeU2 (rm) 74 4 (some 75)) (zeU2 (zeU2 (zeU2 (im) 75 0 10) 75 1 5) 75 2 50) lm) rfl 2 rfl rfl) ?_
  rw [e5, zeBh_n]
  refine Eq.trans (zx_go (t := zt_3) (pc' := 37) (L' := [some (.ref 74)]) (st' := [.ref 74]) (μ' := zc len 64 (sl + 3 + 8 + 6 + 6 + 6) (zeU2 (rC_13 (zeU2 (rm) 74 4 (some 75))) 74 5 (some 76)) (iC_13 (zeU2 (zeU2 (zeU2 (im) 75 0 10) 75 1 5) 75 2 50)) lm) rfl 2 rfl) ?_
  refine Eq.trans (zx_new (t := zt_3) (pc := 37) (pc' := 40) (len := len) (n := 64) rfl rfl (Zs_r (Zs_m hz5 (by decide)) (by decide)) rfl rfl) ?_
  refine Eq.trans (zx_call (t := zt_3) (j := 1) (pc' := 44) (L' := [some (.ref 74)]) (L2 := [some (.ref 80), none]) (st' := [.ref 80, .ref 74]) (μ' := zc len 65 (sl + 3 + 8 + 6 + 6 + 6 + 3) (zeU2 (rC_13 (zeU2 (rm) 74 4 (some 75))) 74 5 (some 76)) (iC_13 (zeU2 (zeU2 (zeU2 (im) 75 0 10) 75 1 5) 75 2 50)) lm) rfl 2 rfl rfl) ?_
  rw [e10, zeBh_n]
  refine Eq.trans (zx_go (t := zt_3) (pc' := 48) (L' := [some (.ref 74)]) (st' := [.ref 74]) (μ' := zc len 67 (sl + 3 + 8 + 6 + 6 + 6 + 3 + 6 + 6) (zeU2 (rC_14 (zeU2 (rC_13 (zeU2 (rm) 74 4 (some 75))) 74 5 (some 76))) 74 6 (some 80)) (iC_14 (iC_13 (zeU2 (zeU2 (zeU2 (im) 75 0 10) 75 1 5) 75 2 50))) lm) rfl 2 rfl) ?_
  refine Eq.trans (zx_new (t := zt_3) (pc := 48) (pc' := 51) (len := len) (n := 67) rfl rfl (Zs_r (Zs_m hz10 (by decide)) (by decide)) rfl rfl) ?_
  refine Eq.trans (zx_call (t := zt_3) (j := 2) (pc' := 55) (L' := [some (.ref 74)]) (L2 := [some (.ref 83)]) (st' := [.ref 83, .ref 74]) (μ' := zc len 68 (sl + 3 + 8 + 6 + 6 + 6 + 3 + 6 + 6 + 6) (zeU2 (rC_14 (zeU2 (rC_13 (zeU2 (rm) 74 4 (some 75))) 74 5 (some 76))) 74 6 (some 80)) (iC_14 (iC_13 (zeU2 (zeU2 (zeU2 (im) 75 0 10) 75 1 5) 75 2 50))) lm) rfl 2 rfl rfl) ?_
  rw [e15, zeBh_n]
  exact zx_ret (t := zt_3) rfl 2 rfl
theorem rj_16 {rm : zRm} (h : RJ rm) : RJ (rC_16 rm) := RJ_u (rj_15 (RJ_u (rj_14 (RJ_u (rj_13 (RJ_u (h) (by decide))) (by decide))) (by decide))) (by decide)
def rC_17 (rm : zRm) : zRm := zeU2 (zeU2 (zeU2 (rm) 91 5 (some 92)) 91 6 (some 93)) 91 7 (some 94)
def iC_17 (im : zI) : zI := im
theorem cq_17 {len : Nat} (sl : Nat) (rm : zRm) (im : zI) (lm : zJ) (hz : Zs 76 rm im lm) : zeRun 0 0 [some (.ref 91)] [] (zc len 76 sl rm im lm) = some (none, zc len 79 (sl + 6 + 6 + 6) (rC_17 rm) (iC_17 im) lm) ∧ Zs 79 (rC_17 rm) (iC_17 im) lm := by
  refine ⟨?_, (Zs_r (Zs_r (Zs_r (Zs_m hz (by decide)) (by decide)) (by decide)) (by decide))⟩
  refine Eq.trans (zx_go (t := zt_0) (pc' := 7) (L' := [some (.ref 91)]) (st' := [.int 6, .ref 91]) (μ' := zc len 76 (sl) (rm) (im) lm) rfl 4 rfl) ?_
  refine Eq.trans (zx_newa (t := zt_0) (pc := 7) (pc' := 9) (len := len) (n := 76) (k := 6) rfl rfl (Zs_m hz (by decide)) rfl rfl (by decide)) ?_
  refine Eq.trans (zx_go (t := zt_0) (pc' := 15) (L' := [some (.ref 91)]) (st' := [.int 6, .ref 91]) (μ' := zc len 77 (sl + 6) (zeU2 (rm) 91 5 (some 92)) (im) lm) rfl 3 rfl) ?_
  refine Eq.trans (zx_newa (t := zt_0) (pc := 15) (pc' := 17) (len := len) (n := 77) (k := 6) rfl rfl (Zs_r (Zs_m hz (by decide)) (by decide)) rfl rfl (by decide)) ?_
  refine Eq.trans (zx_go (t := zt_0) (pc' := 23) (L' := [some (.ref 91)]) (st' := [.int 6, .ref 91]) (μ' := zc len 78 (sl + 6 + 6) (zeU2 (zeU2 (rm) 91 5 (some 92)) 91 6 (some 93)) (im) lm) rfl 3 rfl) ?_
  refine Eq.trans (zx_newa (t := zt_0) (pc := 23) (pc' := 25) (len := len) (n := 78) (k := 6) rfl rfl (Zs_r (Zs_r (Zs_m hz (by decide)) (by decide)) (by decide)) rfl rfl (by decide)) ?_
  exact zx_ret (t := zt_0) rfl 2 rfl
theorem rj_17 {rm : zRm} (h : RJ rm) : RJ (rC_17 rm) := RJ_u (RJ_u (RJ_u (h) (by decide)) (by decide)) (by decide)
def rC_18 (rm : zRm) : zRm := zeU2 (zeU2 (rm) 95 1 (some 96)) 95 2 (some 97)
def iC_18 (im : zI) : zI := zeU2 (zeU2 (zeU2 (zeU2 (zeU2 (zeU2 (im) 97 0 (-10000005)) 97 1 (-10000005)) 97 2 (-10000005)) 97 3 (-10000005)) 97 4 (-10000005)) 97 5 (-10000005)
theorem cq_18 {len : Nat} (sl : Nat) (rm : zRm) (im : zI) (lm : zJ) (hz : Zs 80 rm im lm) : zeRun 1 0 [some (.ref 95), none] [] (zc len 80 sl rm im lm) = some (none, zc len 82 (sl + 6 + 6) (rC_18 rm) (iC_18 im) lm) ∧ Zs 82 (rC_18 rm) (iC_18 im) lm := by
  refine ⟨?_, (Zs_i (Zs_i (Zs_i (Zs_i (Zs_i (Zs_i (Zs_r (Zs_r (Zs_m hz (by decide)) (by decide)) (by decide)) (by decide)) (by decide)) (by decide)) (by decide)) (by decide)) (by decide))⟩
  refine Eq.trans (zx_go (t := zt_1) (pc' := 7) (L' := [some (.ref 95), none]) (st' := [.int 6, .ref 95]) (μ' := zc len 80 (sl) (rm) (im) lm) rfl 4 rfl) ?_
  refine Eq.trans (zx_newa (t := zt_1) (pc := 7) (pc' := 9) (len := len) (n := 80) (k := 6) rfl rfl (Zs_m hz (by decide)) rfl rfl (by decide)) ?_
  refine Eq.trans (zx_go (t := zt_1) (pc' := 15) (L' := [some (.ref 95), none]) (st' := [.int 6, .ref 95]) (μ' := zc len 81 (sl + 6) (zeU2 (rm) 95 1 (some 96)) (im) lm) rfl 3 rfl) ?_
  refine Eq.trans (zx_newa (t := zt_1) (pc := 15) (pc' := 17) (len := len) (n := 81) (k := 6) rfl rfl (Zs_r (Zs_m hz (by decide)) (by decide)) rfl rfl (by decide)) ?_
  refine Eq.trans (zx_go (t := zt_1) (pc' := 39) (L' := [some (.ref 95), some (.int 1)]) (st' := []) (μ' := zc len 82 (sl + 6 + 6) (zeU2 (zeU2 (rm) 95 1 (some 96)) 95 2 (some 97)) (zeU2 (im) 97 0 (-10000005)) lm) rfl 12 rfl) ?_
  refine Eq.trans (zx_go (t := zt_1) (pc' := 23) (L' := [some (.ref 95), some (.int 2)]) (st' := [.int 2]) (μ' := zc len 82 (sl + 6 + 6) (zeU2 (zeU2 (rm) 95 1 (some 96)) 95 2 (some 97)) (zeU2 (zeU2 (im) 97 0 (-10000005)) 97 1 (-10000005)) lm) rfl 12 rfl) ?_
  refine Eq.trans (zx_go (t := zt_1) (pc' := 28) (L' := [some (.ref 95), some (.int 3)]) (st' := []) (μ' := zc len 82 (sl + 6 + 6) (zeU2 (zeU2 (rm) 95 1 (some 96)) 95 2 (some 97)) (zeU2 (zeU2 (zeU2 (im) 97 0 (-10000005)) 97 1 (-10000005)) 97 2 (-10000005)) lm) rfl 12 rfl) ?_
  refine Eq.trans (zx_go (t := zt_1) (pc' := 32) (L' := [some (.ref 95), some (.int 4)]) (st' := [.ref 97]) (μ' := zc len 82 (sl + 6 + 6) (zeU2 (zeU2 (rm) 95 1 (some 96)) 95 2 (some 97)) (zeU2 (zeU2 (zeU2 (zeU2 (im) 97 0 (-10000005)) 97 1 (-10000005)) 97 2 (-10000005)) 97 3 (-10000005)) lm) rfl 12 rfl) ?_
  refine Eq.trans (zx_go (t := zt_1) (pc' := 35) (L' := [some (.ref 95), some (.int 5)]) (st' := [.int (-10000005), .int 5, .ref 97]) (μ' := zc len 82 (sl + 6 + 6) (zeU2 (zeU2 (rm) 95 1 (some 96)) 95 2 (some 97)) (zeU2 (zeU2 (zeU2 (zeU2 (zeU2 (im) 97 0 (-10000005)) 97 1 (-10000005)) 97 2 (-10000005)) 97 3 (-10000005)) 97 4 (-10000005)) lm) rfl 12 rfl) ?_
  exact zx_ret (t := zt_1) rfl 7 rfl
theorem rj_18 {rm : zRm} (h : RJ rm) : RJ (rC_18 rm) := RJ_u (RJ_u (h) (by decide)) (by decide)
def rC_19 (rm : zRm) : zRm := zeU2 (zeU2 (zeU2 (zeU2 (zeU2 (rm) 98 1 (some 99)) 98 2 (some 100)) 98 3 (some 101)) 98 4 (some 102)) 98 5 (some 103)
def iC_19 (im : zI) : zI := im
theorem cq_19 {len : Nat} (sl : Nat) (rm : zRm) (im : zI) (lm : zJ) (hz : Zs 83 rm im lm) : zeRun 2 0 [some (.ref 98)] [] (zc len 83 sl rm im lm) = some (none, zc len 88 (sl + 60 + 60 + 60 + 60 + 60) (rC_19 rm) (iC_19 im) lm) ∧ Zs 88 (rC_19 rm) (iC_19 im) lm := by
  refine ⟨?_, (Zs_r (Zs_r (Zs_r (Zs_r (Zs_r (Zs_m hz (by decide)) (by decide)) (by decide)) (by decide)) (by decide)) (by decide))⟩
  refine Eq.trans (zx_go (t := zt_2) (pc' := 7) (L' := [some (.ref 98)]) (st' := [.int 60, .ref 98]) (μ' := zc len 83 (sl) (rm) (im) lm) rfl 4 rfl) ?_
  refine Eq.trans (zx_newa (t := zt_2) (pc := 7) (pc' := 9) (len := len) (n := 83) (k := 60) rfl rfl (Zs_m hz (by decide)) rfl rfl (by decide)) ?_
  refine Eq.trans (zx_go (t := zt_2) (pc' := 15) (L' := [some (.ref 98)]) (st' := [.int 60, .ref 98]) (μ' := zc len 84 (sl + 60) (zeU2 (rm) 98 1 (some 99)) (im) lm) rfl 3 rfl) ?_
  refine Eq.trans (zx_newa (t := zt_2) (pc := 15) (pc' := 17) (len := len) (n := 84) (k := 60) rfl rfl (Zs_r (Zs_m hz (by decide)) (by decide)) rfl rfl (by decide)) ?_
  refine Eq.trans (zx_go (t := zt_2) (pc' := 23) (L' := [some (.ref 98)]) (st' := [.int 60, .ref 98]) (μ' := zc len 85 (sl + 60 + 60) (zeU2 (zeU2 (rm) 98 1 (some 99)) 98 2 (some 100)) (im) lm) rfl 3 rfl) ?_
  refine Eq.trans (zx_newa (t := zt_2) (pc := 23) (pc' := 25) (len := len) (n := 85) (k := 60) rfl rfl (Zs_r (Zs_r (Zs_m hz (by decide)) (by decide)) (by decide)) rfl rfl (by decide)) ?_
  refine Eq.trans (zx_go (t := zt_2) (pc' := 31) (L' := [some (.ref 98)]) (st' := [.int 60, .ref 98]) (μ' := zc len 86 (sl + 60 + 60 + 60) (zeU2 (zeU2 (zeU2 (rm) 98 1 (some 99)) 98 2 (some 100)) 98 3 (some 101)) (im) lm) rfl 3 rfl) ?_
  refine Eq.trans (zx_newa (t := zt_2) (pc := 31) (pc' := 33) (len := len) (n := 86) (k := 60) rfl rfl (Zs_r (Zs_r (Zs_r (Zs_m hz (by decide)) (by decide)) (by decide)) (by decide)) rfl rfl (by decide)) ?_
  refine Eq.trans (zx_go (t := zt_2) (pc' := 39) (L' := [some (.ref 98)]) (st' := [.int 60, .ref 98]) (μ' := zc len 87 (sl + 60 + 60 + 60 + 60) (zeU2 (zeU2 (zeU2 (zeU2 (rm) 98 1 (some 99)) 98 2 (some 100)) 98 3 (some 101)) 98 4 (some 102)) (im) lm) rfl 3 rfl) ?_
  refine Eq.trans (zx_newa (t := zt_2) (pc := 39) (pc' := 41) (len := len) (n := 87) (k := 60) rfl rfl (Zs_r (Zs_r (Zs_r (Zs_r (Zs_m hz (by decide)) (by decide)) (by decide)) (by decide)) (by decide)) rfl rfl (by decide)) ?_
  exact zx_ret (t := zt_2) rfl 2 rfl
theorem rj_19 {rm : zRm} (h : RJ rm) : RJ (rC_19 rm) := RJ_u (RJ_u (RJ_u (RJ_u (RJ_u (h) (by decide)) (by decide)) (by decide)) (by decide)) (by decide)
def rC_20 (rm : zRm) : zRm := zeU2 (rC_19 (zeU2 (rC_18 (zeU2 (rC_17 (zeU2 (rm) 89 4 (some 90))) 89 5 (some 91))) 89 6 (some 95))) 89 7 (some 98)
def iC_20 (im : zI) : zI := iC_19 (iC_18 (iC_17 (zeU2 (zeU2 (zeU2 (im) 90 0 10) 90 1 5) 90 2 50)))
theorem cq_20 {len : Nat} (sl : Nat) (rm : zRm) (im : zI) (lm : zJ) (hz : Zs 74 rm im lm) : zeRun 3 0 [some (.ref 89)] [] (zc len 74 sl rm im lm) = some (none, zc len 88 (sl + 3 + 8 + 6 + 6 + 6 + 3 + 6 + 6 + 6 + 60 + 60 + 60 + 60 + 60) (rC_20 rm) (iC_20 im) lm) ∧ Zs 88 (rC_20 rm) (iC_20 im) lm := by
  obtain ⟨e5, hz5⟩ := cq_17 (len := len) (sl + 3 + 8) (zeU2 (rm) 89 4 (some 90)) (zeU2 (zeU2 (zeU2 (im) 90 0 10) 90 1 5) 90 2 50) lm (Zs_r (Zs_i (Zs_i (Zs_i (Zs_m hz (by decide)) (by decide)) (by decide)) (by decide)) (by decide))
  obtain ⟨e10, hz10⟩ := cq_18 (len := len) (sl + 3 + 8 + 6 + 6 + 6 + 3) (zeU2 (rC_17 (zeU2 (rm) 89 4 (some 90))) 89 5 (some 91)) (iC_17 (zeU2 (zeU2 (zeU2 (im) 90 0 10) 90 1 5) 90 2 50)) lm (Zs_r (Zs_m hz5 (by decide)) (by decide))
  obtain ⟨e15, hz15⟩ := cq_19 (len := len) (sl + 3 + 8 + 6 + 6 + 6 + 3 + 6 + 6 + 6) (zeU2 (rC_18 (zeU2 (rC_17 (zeU2 (rm) 89 4 (some 90))) 89 5 (some 91))) 89 6 (some 95)) (iC_18 (iC_17 (zeU2 (zeU2 (zeU2 (im) 90 0 10) 90 1 5) 90 2 50))) lm (Zs_r (Zs_m hz10 (by decide)) (by decide))
  refine ⟨?_, (Zs_r (Zs_m hz15 (by decide)) (by decide))⟩
  refine Eq.trans (zx_go (t := zt_3) (pc' := 6) (L' := [some (.ref 89)]) (st' := [.int 3, .ref 89]) (μ' := zc len 74 (sl) (rm) (im) lm) rfl 4 rfl) ?_
  refine Eq.trans (zx_newa (t := zt_3) (pc := 6) (pc' := 8) (len := len) (n := 74) (k := 3) rfl rfl (Zs_m hz (by decide)) rfl rfl (by decide)) ?_
  refine Eq.trans (zx_go (t := zt_3) (pc' := 22) (L' := [some (.ref 89)]) (st' := [.ref 90, .ref 89]) (μ' := zc len 75 (sl + 3) (rm) (zeU2 (zeU2 (zeU2 (im) 90 0 10) 90 1 5) 90 2 50) lm) rfl 12 rfl) ?_
  refine Eq.trans (zx_go (t := zt_3) (pc' := 26) (L' := [some (.ref 89)]) (st' := [.ref 89]) (μ' := zc len 75 (sl + 3) (zeU2 (rm) 89 4 (some 90)) (zeU2 (zeU2 (zeU2 (im) 90 0 10) 90 1 5) 90 2 50) lm) rfl 2 rfl) ?_
  refine Eq.trans (zx_new (t := zt_3) (pc := 26) (pc' := 29) (len := len) (n := 75) rfl rfl (Zs_r (Zs_i (Zs_i (Zs_i (Zs_m hz (by decide)) (by decide)) (by decide)) (by decide)) (by decide)) rfl rfl) ?_
  refine Eq.trans (zx_call (t := zt_3) (j := 0) (pc' := 33) (L' := [some (.ref 89)]) (L2 := [some (.ref 91)]) (st' := [.ref 91, .ref 89]) (μ' := zc len 76 (sl + 3 + 8) (zeU2 (rm) 89 4 (some 90)) (zeU2 (zeU2 (zeU2 (im) 90 0 10) 90 1 5) 90 2 50) lm) rfl 2 rfl rfl) ?_
  rw [e5, zeBh_n]
  refine Eq.trans (zx_go (t := zt_3) (pc' := 37) (L' := [some (.ref 89)]) (st' := [.ref 89]) (μ' := zc len 79 (sl + 3 + 8 + 6 + 6 + 6) (zeU2 (rC_17 (zeU2 (rm) 89 4 (some 90))) 89 5 (some 91)) (iC_17 (zeU2 (zeU2 (zeU2 (im) 90 0 10) 90 1 5) 90 2 50)) lm) rfl 2 rfl) ?_
  refine Eq.trans (zx_new (t := zt_3) (pc := 37) (pc' := 40) (len := len) (n := 79) rfl rfl (Zs_r (Zs_m hz5 (by decide)) (by decide)) rfl rfl) ?_
  refine Eq.trans (zx_call (t := zt_3) (j := 1) (pc' := 44) (L' := [some (.ref 89)]) (L2 := [some (.ref 95), none]) (st' := [.ref 95, .ref 89]) (μ' := zc len 80 (sl + 3 + 8 + 6 + 6 + 6 + 3) (zeU2 (rC_17 (zeU2 (rm) 89 4 (some 90))) 89 5 (some 91)) (iC_17 (zeU2 (zeU2 (zeU2 (im) 90 0 10) 90 1 5) 90 2 50)) lm) rfl 2 rfl rfl) ?_
  rw [e10, zeBh_n]
  refine Eq.trans (zx_go (t := zt_3) (pc' := 48) (L' := [some (.ref 89)]) (st' := [.ref 89]) (μ' := zc len 82 (sl + 3 + 8 + 6 + 6 + 6 + 3 + 6 + 6) (zeU2 (rC_18 (zeU2 (rC_17 (zeU2 (rm) 89 4 (some 90))) 89 5 (some 91))) 89 6 (some 95)) (iC_18 (iC_17 (zeU2 (zeU2 (zeU2 (im) 90 0 10) 90 1 5) 90 2 50))) lm) rfl 2 rfl) ?_
  refine Eq.trans (zx_new (t := zt_3) (pc := 48) (pc' := 51) (len := len) (n := 82) rfl rfl (Zs_r (Zs_m hz10 (by decide)) (by decide)) rfl rfl) ?_
  refine Eq.trans (zx_call (t := zt_3) (j := 2) (pc' := 55) (L' := [some (.ref 89)]) (L2 := [some (.ref 98)]) (st' := [.ref 98, .ref 89]) (μ' := zc len 83 (sl + 3 + 8 + 6 + 6 + 6 + 3 + 6 + 6 + 6) (zeU2 (rC_18 (zeU2 (rC_17 (zeU2 (rm) 89 4 (some 90))) 89 5 (some 91))) 89 6 (some 95)) (iC_18 (iC_17 (zeU2 (zeU2 (zeU2 (im) 90 0 10) 90 1 5) 90 2 50))) lm) rfl 2 rfl rfl) ?_
  rw [e15, zeBh_n]
  exact zx_ret (t := zt_3) rfl 2 rfl
theorem rj_20 {rm : zRm} (h : RJ rm) : RJ (rC_20 rm) := RJ_u (rj_19 (RJ_u (rj_18 (RJ_u (rj_17 (RJ_u (h) (by decide))) (by decide))) (by decide))) (by decide)
def rC_21 (rm : zRm) : zRm := zeU2 (zeU2 (zeU2 (rm) 106 5 (some 107)) 106 6 (some 108)) 106 7 (some 109)
def iC_21 (im : zI) : zI := im
theorem cq_21 {len : Nat} (sl : Nat) (rm : zRm) (im : zI) (lm : zJ) (hz : Zs 91 rm im lm) : zeRun 0 0 [some (.ref 106)] [] (zc len 91 sl rm im lm) = some (none, zc len 94 (sl + 6 + 6 + 6) (rC_21 rm) (iC_21 im) lm) ∧ Zs 94 (rC_21 rm) (iC_21 im) lm := by
  refine ⟨?_, (Zs_r (Zs_r (Zs_r (Zs_m hz (by decide)) (by decide)) (by decide)) (by decide))⟩
  refine Eq.trans (zx_go (t := zt_0) (pc' := 7) (L' := [some (.ref 106)]) (st' := [.int 6, .ref 106]) (μ' := zc len 91 (sl) (rm) (im) lm) rfl 4 rfl) ?_
  refine Eq.trans (zx_newa (t := zt_0) (pc := 7) (pc' := 9) (len := len) (n := 91) (k := 6) rfl rfl (Zs_m hz (by decide)) rfl rfl (by decide)) ?_
  refine Eq.trans (zx_go (t := zt_0) (pc' := 15) (L' := [some (.ref 106)]) (st' := [.int 6, .ref 106]) (μ' := zc len 92 (sl + 6) (zeU2 (rm) 106 5 (some 107)) (im) lm) rfl 3 rfl) ?_
  refine Eq.trans (zx_newa (t := zt_0) (pc := 15) (pc' := 17) (len := len) (n := 92) (k := 6) rfl rfl (Zs_r (Zs_m hz (by decide)) (by decide)) rfl rfl (by decide)) ?_
  refine Eq.trans (zx_go (t := zt_0) (pc' := 23) (L' := [some (.ref 106)]) (st' := [.int 6, .ref 106]) (μ' := zc len 93 (sl + 6 + 6) (zeU2 (zeU2 (rm) 106 5 (some 107)) 106 6 (some 108)) (im) lm) rfl 3 rfl) ?_
  refine Eq.trans (zx_newa (t := zt_0) (pc := 23) (pc' := 25) (len := len) (n := 93) (k := 6) rfl rfl (Zs_r (Zs_r (Zs_m hz (by decide)) (by decide)) (by decide)) rfl rfl (by decide)) ?_
  exact zx_ret (t := zt_0) rfl 2 rfl
theorem rj_21 {rm : zRm} (h : RJ rm) : RJ (rC_21 rm) := RJ_u (RJ_u (RJ_u (h) (by decide)) (by decide)) (by decide)
def rC_22 (rm : zRm) : zRm := zeU2 (zeU2 (rm) 110 1 (some 111)) 110 2 (some 112)
def iC_22 (im : zI) : zI := zeU2 (zeU2 (zeU2 (zeU2 (zeU2 (zeU2 (im) 112 0 (-10000005)) 112 1 (-10000005)) 112 2 (-10000005)) 112 3 (-10000005)) 112 4 (-10000005)) 112 5 (-10000005)
theorem cq_22 {len : Nat} (sl : Nat) (rm : zRm) (im : zI) (lm : zJ) (hz : Zs 95 rm im lm) : zeRun 1 0 [some (.ref 110), none] [] (zc len 95 sl rm im lm) = some (none, zc len 97 (sl + 6 + 6) (rC_22 rm) (iC_22 im) lm) ∧ Zs 97 (rC_22 rm) (iC_22 im) lm := by
  refine ⟨?_, (Zs_i (Zs_i (Zs_i (Zs_i (Zs_i (Zs_i (Zs_r (Zs_r (Zs_m hz (by decide)) (by decide)) (by decide)) (by decide)) (by decide)) (by decide)) (by decide)) (by decide)) (by decide))⟩
  refine Eq.trans (zx_go (t := zt_1) (pc' := 7) (L' := [some (.ref 110), none]) (st' := [.int 6, .ref 110]) (μ' := zc len 95 (sl) (rm) (im) lm) rfl 4 rfl) ?_
  refine Eq.trans (zx_newa (t := zt_1) (pc := 7) (pc' := 9) (len := len) (n := 95) (k := 6) rfl rfl (Zs_m hz (by decide)) rfl rfl (by decide)) ?_
  refine Eq.trans (zx_go (t := zt_1) (pc' := 15) (L' := [some (.ref 110), none]) (st' := [.int 6, .ref 110]) (μ' := zc len 96 (sl + 6) (zeU2 (rm) 110 1 (some 111)) (im) lm) rfl 3 rfl) ?_
  refine Eq.trans (zx_newa (t := zt_1) (pc := 15) (pc' := 17) (len := len) (n := 96) (k := 6) rfl rfl (Zs_r (Zs_m hz (by decide)) (by decide)) rfl rfl (by decide)) ?_
  refine Eq.trans (zx_go (t := zt_1) (pc' := 39) (L' := [some (.ref 110), some (.int 1)]) (st' := []) (μ' := zc len 97 (sl + 6 + 6) (zeU2 (zeU2 (rm) 110 1 (some 111)) 110 2 (some 112)) (zeU2 (im) 112 0 (-10000005)) lm) rfl 12 rfl) ?_
  refine Eq.trans (zx_go (t := zt_1) (pc' := 23) (L' := [some (.ref 110), some (.int 2)]) (st' := [.int 2]) (μ' := zc len 97 (sl + 6 + 6) (zeU2 (zeU2 (rm) 110 1 (some 111)) 110 2 (some 112)) (zeU2 (zeU2 (im) 112 0 (-10000005)) 112 1 (-10000005)) lm) rfl 12 rfl) ?_
  refine Eq.trans (zx_go (t := zt_1) (pc' := 28) (L' := [some (.ref 110), some (.int 3)]) (st' := []) (μ' := zc len 97 (sl + 6 + 6) (zeU2 (zeU2 (rm) 110 1 (some 111)) 110 2 (some 112)) (zeU2 (zeU2 (zeU2 (im) 112 0 (-10000005)) 112 1 (-10000005)) 112 2 (-10000005)) lm) rfl 12 rfl) ?_
  refine Eq.trans (zx_go (t := zt_1) (pc' := 32) (L' := [some (.ref 110), some (.int 4)]) (st' := [.ref 112]) (μ' := zc len 97 (sl + 6 + 6) (zeU2 (zeU2 (rm) 110 1 (some 111)) 110 2 (some 112)) (zeU2 (zeU2 (zeU2 (zeU2 (im) 112 0 (-10000005)) 112 1 (-10000005)) 112 2 (-10000005)) 112 3 (-10000005)) lm) rfl 12 rfl) ?_
  refine Eq.trans (zx_go (t := zt_1) (pc' := 35) (L' := [some (.ref 110), some (.int 5)]) (st' := [.int (-10000005), .int 5, .ref 112]) (μ' := zc len 97 (sl + 6 + 6) (zeU2 (zeU2 (rm) 110 1 (some 111)) 110 2 (some 112)) (zeU2 (zeU2 (zeU2 (zeU2 (zeU2 (im) 112 0 (-10000005)) 112 1 (-10000005)) 112 2 (-10000005)) 112 3 (-10000005)) 112 4 (-10000005)) lm) rfl 12 rfl) ?_
  exact zx_ret (t := zt_1) rfl 7 rfl
theorem rj_22 {rm : zRm} (h : RJ rm) : RJ (rC_22 rm) := RJ_u (RJ_u (h) (by decide)) (by decide)
def rC_23 (rm : zRm) : zRm := zeU2 (zeU2 (zeU2 (zeU2 (zeU2 (rm) 113 1 (some 114)) 113 2 (some 115)) 113 3 (some 116)) 113 4 (some 117)) 113 5 (some 118)
def iC_23 (im : zI) : zI := im
theorem cq_23 {len : Nat} (sl : Nat) (rm : zRm) (im : zI) (lm : zJ) (hz : Zs 98 rm im lm) : zeRun 2 0 [some (.ref 113)] [] (zc len 98 sl rm im lm) = some (none, zc len 103 (sl + 60 + 60 + 60 + 60 + 60) (rC_23 rm) (iC_23 im) lm) ∧ Zs 103 (rC_23 rm) (iC_23 im) lm := by
  refine ⟨?_, (Zs_r (Zs_r (Zs_r (Zs_r (Zs_r (Zs_m hz (by decide)) (by decide)) (by decide)) (by decide)) (by decide)) (by decide))⟩
  refine Eq.trans (zx_go (t := zt_2) (pc' := 7) (L' := [some (.ref 113)]) (st' := [.int 60, .ref 113]) (μ' := zc len 98 (sl) (rm) (im) lm) rfl 4 rfl) ?_
  refine Eq.trans (zx_newa (t := zt_2) (pc := 7) (pc' := 9) (len := len) (n := 98) (k := 60) rfl rfl (Zs_m hz (by decide)) rfl rfl (by decide)) ?_
  refine Eq.trans (zx_go (t := zt_2) (pc' := 15) (L' := [some (.ref 113)]) (st' := [.int 60, .ref 113]) (μ' := zc len 99 (sl + 60) (zeU2 (rm) 113 1 (some 114)) (im) lm) rfl 3 rfl) ?_
  refine Eq.trans (zx_newa (t := zt_2) (pc := 15) (pc' := 17) (len := len) (n := 99) (k := 60) rfl rfl (Zs_r (Zs_m hz (by decide)) (by decide)) rfl rfl (by decide)) ?_
  refine Eq.trans (zx_go (t := zt_2) (pc' := 23) (L' := [some (.ref 113)]) (st' := [.int 60, .ref 113]) (μ' := zc len 100 (sl + 60 + 60) (zeU2 (zeU2 (rm) 113 1 (some 114)) 113 2 (some 115)) (im) lm) rfl 3 rfl) ?_
  refine Eq.trans (zx_newa (t := zt_2) (pc := 23) (pc' := 25) (len := len) (n := 100) (k := 60) rfl rfl (Zs_r (Zs_r (Zs_m hz (by decide)) (by decide)) (by decide)) rfl rfl (by decide)) ?_
  refine Eq.trans (zx_go (t := zt_2) (pc' := 31) (L' := [some (.ref 113)]) (st' := [.int 60, .ref 113]) (μ' := zc len 101 (sl + 60 + 60 + 60) (zeU2 (zeU2 (zeU2 (rm) 113 1 (some 114)) 113 2 (some 115)) 113 3 (some 116)) (im) lm) rfl 3 rfl) ?_
  refine Eq.trans (zx_newa (t := zt_2) (pc := 31) (pc' := 33) (len := len) (n := 101) (k := 60) rfl rfl (Zs_r (Zs_r (Zs_r (Zs_m hz (by decide)) (by decide)) (by decide)) (by decide)) rfl rfl (by decide)) ?_
  refine Eq.trans (zx_go (t := zt_2) (pc' := 39) (L' := [some (.ref 113)]) (st' := [.int 60, .ref 113]) (μ' := zc len 102 (sl + 60 + 60 + 60 + 60) (zeU2 (zeU2 (zeU2 (zeU2 (rm) 113 1 (some 114)) 113 2 (some 115)) 113 3 (some 116)) 113 4 (some 117)) (im) lm) rfl 3 rfl) ?_
  refine Eq.trans (zx_newa (t := zt_2) (pc := 39) (pc' := 41) (len := len) (n := 102) (k := 60) rfl rfl (Zs_r (Zs_r (Zs_r (Zs_r (Zs_m hz (by decide)) (by decide)) (by decide)) (by decide)) (by decide)) rfl rfl (by decide)) ?_
  exact zx_ret (t := zt_2) rfl 2 rfl
theorem rj_23 {rm : zRm} (h : RJ rm) : RJ (rC_23 rm) := RJ_u (RJ_u (RJ_u (RJ_u (RJ_u (h) (by decide)) (by decide)) (by decide)) (by decide)) (by decide)
def rC_24 (rm : zRm) : zRm := zeU2 (rC_23 (zeU2 (rC_22 (zeU2 (rC_21 (zeU2 (rm) 104 4 (some 105))) 104 5 (some 106))) 104 6 (some 110))) 104 7 (some 113)
def iC_24 (im : zI) : zI := iC_23 (iC_22 (iC_21 (zeU2 (zeU2 (zeU2 (im) 105 0 10) 105 1 5) 105 2 50)))
theorem cq_24 {len : Nat} (sl : Nat) (rm : zRm) (im : zI) (lm : zJ) (hz : Zs 89 rm im lm) : zeRun 3 0 [some (.ref 104)] [] (zc len 89 sl rm im lm) = some (none, zc len 103 (sl + 3 + 8 + 6 + 6 + 6 + 3 + 6 + 6 + 6 + 60 + 60 + 60 + 60 + 60) (rC_24 rm) (iC_24 im) lm) ∧ Zs 103 (rC_24 rm) (iC_24 im) lm := by
  obtain ⟨e5, hz5⟩ := cq_21 (len := len) (sl + 3 + 8) (zeU2 (rm) 104 4 (some 105)) (zeU2 (zeU2 (zeU2 (im) 105 0 10) 105 1 5) 105 2 50) lm (Zs_r (Zs_i (Zs_i (Zs_i (Zs_m hz (by decide)) (by decide)) (by decide)) (by decide)) (by decide))
  obtain ⟨e10, hz10⟩ := cq_22 (len := len) (sl + 3 + 8 + 6 + 6 + 6 + 3) (zeU2 (rC_21 (zeU2 (rm) 104 4 (some 105))) 104 5 (some 106)) (iC_21 (zeU2 (zeU2 (zeU2 (im) 105 0 10) 105 1 5) 105 2 50)) lm (Zs_r (Zs_m hz5 (by decide)) (by decide))
  obtain ⟨e15, hz15⟩ := cq_23 (len := len) (sl + 3 + 8 + 6 + 6 + 6 + 3 + 6 + 6 + 6) (zeU2 (rC_22 (zeU2 (rC_21 (zeU2 (rm) 104 4 (some 105))) 104 5 (some 106))) 104 6 (some 110)) (iC_22 (iC_21 (zeU2 (zeU2 (zeU2 (im) 105 0 10) 105 1 5) 105 2 50))) lm (Zs_r (Zs_m hz10 (by decide)) (by decide))
  refine ⟨?_, (Zs_r (Zs_m hz15 (by decide)) (by decide))⟩
  refine Eq.trans (zx_go (t := zt_3) (pc' := 6) (L' := [some (.ref 104)]) (st' := [.int 3, .ref 104]) (μ' := zc len 89 (sl) (rm) (im) lm) rfl 4 rfl) ?_
  refine Eq.trans (zx_newa (t := zt_3) (pc := 6) (pc' := 8) (len := len) (n := 89) (k := 3) rfl rfl (Zs_m hz (by decide)) rfl rfl (by decide)) ?_
  refine Eq.trans (zx_go (t := zt_3) (pc' := 22) (L' := [some (.ref 104)]) (st' := [.ref 105, .ref 104]) (μ' := zc len 90 (sl + 3) (rm) (zeU2 (zeU2 (zeU2 (im) 105 0 10) 105 1 5) 105 2 50) lm) rfl 12 rfl) ?_
  refine Eq.trans (zx_go (t := zt_3) (pc' := 26) (L' := [some (.ref 104)]) (st' := [.ref 104]) (μ' := zc len 90 (sl + 3) (zeU2 (rm) 104 4 (some 105)) (zeU2 (zeU2 (zeU2 (im) 105 0 10) 105 1 5) 105 2 50) lm) rfl 2 rfl) ?_
  refine Eq.trans (zx_new (t := zt_3) (pc := 26) (pc' := 29) (len := len) (n := 90) rfl rfl (Zs_r (Zs_i (Zs_i (Zs_i (Zs_m hz (by decide)) (by decide)) (by decide)) (by decide)) (by decide)) rfl rfl) ?_
  refine Eq.trans (zx_call (t := zt_3) (j := 0) (pc' := 33) (L' := [some (.ref 104)]) (L2 := [some (.ref 106)]) (st' := [.ref 106, .ref 104]) (μ' := zc len 91 (sl + 3 + 8) (zeU2 (rm) 104 4 (some 105)) (zeU2 (zeU2 (zeU2 (im) 105 0 10) 105 1 5) 105 2 50) lm) rfl 2 rfl rfl) ?_
  rw [e5, zeBh_n]
  refine Eq.trans (zx_go (t := zt_3) (pc' := 37) (L' := [some (.ref 104)]) (st' := [.ref 104]) (μ' := zc len 94 (sl + 3 + 8 + 6 + 6 + 6) (zeU2 (rC_21 (zeU2 (rm) 104 4 (some 105))) 104 5 (some 106)) (iC_21 (zeU2 (zeU2 (zeU2 (im) 105 0 10) 105 1 5) 105 2 50)) lm) rfl 2 rfl) ?_
  refine Eq.trans (zx_new (t := zt_3) (pc := 37) (pc' := 40) (len := len) (n := 94) rfl rfl (Zs_r (Zs_m hz5 (by decide)) (by decide)) rfl rfl) ?_
  refine Eq.trans (zx_call (t := zt_3) (j := 1) (pc' := 44) (L' := [some (.ref 104)]) (L2 := [some (.ref 110), none]) (st' := [.ref 110, .ref 104]) (μ' := zc len 95 (sl + 3 + 8 + 6 + 6 + 6 + 3) (zeU2 (rC_21 (zeU2 (rm) 104 4 (some 105))) 104 5 (some 106)) (iC_21 (zeU2 (zeU2 (zeU2 (im) 105 0 10) 105 1 5) 105 2 50)) lm) rfl 2 rfl rfl) ?_
  rw [e10, zeBh_n]
  refine Eq.trans (zx_go (t := zt_3) (pc' := 48) (L' := [some (.ref 104)]) (st' := [.ref 104]) (μ' := zc len 97 (sl + 3 + 8 + 6 + 6 + 6 + 3 + 6 + 6) (zeU2 (rC_22 (zeU2 (rC_21 (zeU2 (rm) 104 4 (some 105))) 104 5 (some 106))) 104 6 (some 110)) (iC_22 (iC_21 (zeU2 (zeU2 (zeU2 (im) 105 0 10) 105 1 5) 105 2 50))) lm) rfl 2 rfl) ?_
  refine Eq.trans (zx_new (t := zt_3) (pc := 48) (pc' := 51) (len := len) (n := 97) rfl rfl (Zs_r (Zs_m hz10 (by decide)) (by decide)) rfl rfl) ?_
  refine Eq.trans (zx_call (t := zt_3) (j := 2) (pc' := 55) (L' := [some (.ref 104)]) (L2 := [some (.ref 113)]) (st' := [.ref 113, .ref 104]) (μ' := zc len 98 (sl + 3 + 8 + 6 + 6 + 6 + 3 + 6 + 6 + 6) (zeU2 (rC_22 (zeU2 (rC_21 (zeU2 (rm) 104 4 (some 105))) 104 5 (some 106))) 104 6 (some 110)) (iC_22 (iC_21 (zeU2 (zeU2 (zeU2 (im) 105 0 10) 105 1 5) 105 2 50))) lm) rfl 2 rfl rfl) ?_
  rw [e15, zeBh_n]
  exact zx_ret (t := zt_3) rfl 2 rfl
theorem rj_24 {rm : zRm} (h : RJ rm) : RJ (rC_24 rm) := RJ_u (rj_23 (RJ_u (rj_22 (RJ_u (rj_21 (RJ_u (h) (by decide))) (by decide))) (by decide))) (by decide)
def rC_25 (rm : zRm) : zRm := zeU2 (zeU2 (zeU2 (rm) 121 5 (some 122)) 121 6 (some 123)) 121 7 (some 124)
def iC_25 (im : zI) : zI := im
theorem cq_25 {len : Nat} (sl : Nat) (rm : zRm) (im : zI) (lm : zJ) (hz : Zs 106 rm im lm) : zeRun 0 0 [some (.ref 121)] [] (zc len 106 sl rm im lm) = some (none, zc len 109 (sl + 6 + 6 + 6) (rC_25 rm) (iC_25 im) lm) ∧ Zs 109 (rC_25 rm) (iC_25 im) lm := by
  refine ⟨?_, (Zs_r (Zs_r (Zs_r (Zs_m hz (by decide)) (by decide)) (by decide)) (by decide))⟩
  refine Eq.trans (zx_go (t := zt_0) (pc' := 7) (L' := [some (.ref 121)]) (st' := [.int 6, .ref 121]) (μ' := zc len 106 (sl) (rm) (im) lm) rfl 4 rfl) ?_
  refine Eq.trans (zx_newa (t := zt_0) (pc := 7) (pc' := 9) (len := len) (n := 106) (k := 6) rfl rfl (Zs_m hz (by decide)) rfl rfl (by decide)) ?_
  refine Eq.trans (zx_go (t := zt_0) (pc' := 15) (L' := [some (.ref 121)]) (st' := [.int 6, .ref 121]) (μ' := zc len 107 (sl + 6) (zeU2 (rm) 121 5 (some 122)) (im) lm) rfl 3 rfl) ?_
  refine Eq.trans (zx_newa (t := zt_0) (pc := 15) (pc' := 17) (len := len) (n := 107) (k := 6) rfl rfl (Zs_r (Zs_m hz (by decide)) (by decide)) rfl rfl (by decide)) ?_
  refine Eq.trans (zx_go (t := zt_0) (pc' := 23) (L' := [some (.ref 121)]) (st' := [.int 6, .ref 121]) (μ' := zc len 108 (sl + 6 + 6) (zeU2 (zeU2 (rm) 121 5 (some 122)) 121 6 (some 123)) (im) lm) rfl 3 rfl) ?_
  refine Eq.trans (zx_newa (t := zt_0) (pc := 23) (pc' := 25) (len := len) (n := 108) (k := 6) rfl rfl (Zs_r (Zs_r (Zs_m hz (by decide)) (by decide)) (by decide)) rfl rfl (by decide)) ?_
  exact zx_ret (t := zt_0) rfl 2 rfl
theorem rj_25 {rm : zRm} (h : RJ rm) : RJ (rC_25 rm) := RJ_u (RJ_u (RJ_u (h) (by decide)) (by decide)) (by decide)
def rC_26 (rm : zRm) : zRm := zeU2 (zeU2 (rm) 125 1 (some 126)) 125 2 (some 127)
def iC_26 (im : zI) : zI := zeU2 (zeU2 (zeU2 (zeU2 (zeU2 (zeU2 (im) 127 0 (-10000005)) 127 1 (-10000005)) 127 2 (-10000005)) 127 3 (-10000005)) 127 4 (-10000005)) 127 5 (-10000005)
theorem cq_26 {len : Nat} (sl : Nat) (rm : zRm) (im : zI) (lm : zJ) (hz : Zs 110 rm im lm) : zeRun 1 0 [some (.ref 125), none] [] (zc len 110 sl rm im lm) = some (none, zc len 112 (sl + 6 + 6) (rC_26 rm) (iC_26 im) lm) ∧ Zs 112 (rC_26 rm) (iC_26 im) lm := by
  refine ⟨?_, (Zs_i (Zs_i (Zs_i (Zs_i (Zs_i (Zs_i (Zs_r (Zs_r (Zs_m hz (by decide)) (by decide)) (by decide)) (by decide)) (by decide)) (by decide)) (by decide)) (by decide)) (by decide))⟩
  refine Eq.trans (zx_go (t := zt_1) (pc' := 7) (L' := [some (.ref 125), none]) (st' := [.int 6, .ref 125]) (μ' := zc len 110 (sl) (rm) (im) lm) rfl 4 rfl) ?_
  refine Eq.trans (zx_newa (t := zt_1) (pc := 7) (pc' := 9) (len := len) (n := 110) (k := 6) rfl rfl (Zs_m hz (by decide)) rfl rfl (by decide)) ?_
  refine Eq.trans (zx_go (t := zt_1) (pc' := 15) (L' := [some (.ref 125), none]) (st' := [.int 6, .ref 125]) (μ' := zc len 111 (sl + 6) (zeU2 (rm) 125 1 (some 126)) (im) lm) rfl 3 rfl) ?_
  refine Eq.trans (zx_newa (t := zt_1) (pc := 15) (pc' := 17) (len := len) (n := 111) (k := 6) rfl rfl (Zs_r (Zs_m hz (by decide)) (by decide)) rfl rfl (by decide)) ?_
  refine Eq.trans (zx_go (t := zt_1) (pc' := 39) (L' := [some (.ref 125), some (.int 1)]) (st' := []) (μ' := zc len 112 (sl + 6 + 6) (zeU2 (zeU2 (rm) 125 1 (some 126)) 125 2 (some 127)) (zeU2 (im) 127 0 (-10000005)) lm) rfl 12 rfl) ?_
  refine Eq.trans (zx_go (t := zt_1) (pc' := 23) (L' := [some (.ref 125), some (.int 2)]) (st' := [.int 2]) (μ' := zc len 112 (sl + 6 + 6) (zeU2 (zeU2 (rm) 125 1 (some 126)) 125 2 (some 127)) (zeU2 (zeU2 (im) 127 0 (-10000005)) 127 1 (-10000005)) lm) rfl 12 rfl) ?_
  refine Eq.trans (zx_go (t := zt_1) (pc' := 28) (L' := [some (.ref 125), some (.int 3)]) (st' := []) (μ' := zc len 112 (sl + 6 + 6) (zeU2 (zeU2 (rm) 125 1 (some 126)) 125 2 (some 127)) (zeU2 (zeU2 (zeU2 (im) 127 0 (-10000005)) 127 1 (-10000005)) 127 2 (-10000005)) lm) rfl 12 rfl) ?_
  refine Eq.trans (zx_go (t := zt_1) (pc' := 32) (L' := [some (.ref 125), some (.int 4)]) (st' := [.ref 127]) (μ' := zc len 112 (sl + 6 + 6) (zeU2 (zeU2 (rm) 125 1 (some 126)) 125 2 (some 127)) (zeU2 (zeU2 (zeU2 (zeU2 (im) 127 0 (-10000005)) 127 1 (-10000005)) 127 2 (-10000005)) 127 3 (-10000005)) lm) rfl 12 rfl) ?_
  refine Eq.trans (zx_go (t := zt_1) (pc' := 35) (L' := [some (.ref 125), some (.int 5)]) (st' := [.int (-10000005), .int 5, .ref 127]) (μ' := zc len 112 (sl + 6 + 6) (zeU2 (zeU2 (rm) 125 1 (some 126)) 125 2 (some 127)) (zeU2 (zeU2 (zeU2 (zeU2 (zeU2 (im) 127 0 (-10000005)) 127 1 (-10000005)) 127 2 (-10000005)) 127 3 (-10000005)) 127 4 (-10000005)) lm) rfl 12 rfl) ?_
  exact zx_ret (t := zt_1) rfl 7 rfl
theorem rj_26 {rm : zRm} (h : RJ rm) : RJ (rC_26 rm) := RJ_u (RJ_u (h) (by decide)) (by decide)
def rC_27 (rm : zRm) : zRm := zeU2 (zeU2 (zeU2 (zeU2 (zeU2 (rm) 128 1 (some 129)) 128 2 (some 130)) 128 3 (some 131)) 128 4 (some 132)) 128 5 (some 133)
def iC_27 (im : zI) : zI := im
theorem cq_27 {len : Nat} (sl : Nat) (rm : zRm) (im : zI) (lm : zJ) (hz : Zs 113 rm im lm) : zeRun 2 0 [some (.ref 128)] [] (zc len 113 sl rm im lm) = some (none, zc len 118 (sl + 60 + 60 + 60 + 60 + 60) (rC_27 rm) (iC_27 im) lm) ∧ Zs 118 (rC_27 rm) (iC_27 im) lm := by
  refine ⟨?_, (Zs_r (Zs_r (Zs_r (Zs_r (Zs_r (Zs_m hz (by decide)) (by decide)) (by decide)) (by decide)) (by decide)) (by decide))⟩
  refine Eq.trans (zx_go (t := zt_2) (pc' := 7) (L' := [some (.ref 128)]) (st' := [.int 60, .ref 128]) (μ' := zc len 113 (sl) (rm) (im) lm) rfl 4 rfl) ?_
  refine Eq.trans (zx_newa (t := zt_2) (pc := 7) (pc' := 9) (len := len) (n := 113) (k := 60) rfl rfl (Zs_m hz (by decide)) rfl rfl (by decide)) ?_
  refine Eq.trans (zx_go (t := zt_2) (pc' := 15) (L' := [some (.ref 128)]) (st' := [.int 60, .ref 128]) (μ' := zc len 114 (sl + 60) (zeU2 (rm) 128 1 (some 129)) (im) lm) rfl 3 rfl) ?_
  refine Eq.trans (zx_newa (t := zt_2) (pc := 15) (pc' := 17) (len := len) (n := 114) (k := 60) rfl rfl (Zs_r (Zs_m hz (by decide)) (by decide)) rfl rfl (by decide)) ?_
  refine Eq.trans (zx_go (t := zt_2) (pc' := 23) (L' := [some (.ref 128)]) (st' := [.int 60, .ref 128]) (μ' := zc len 115 (sl + 60 + 60) (zeU2 (zeU2 (rm) 128 1 (some 129)) 128 2 (some 130)) (im) lm) rfl 3 rfl) ?_
  refine Eq.trans (zx_newa (t := zt_2) (pc := 23) (pc' := 25) (len := len) (n := 115) (k := 60) rfl rfl (Zs_r (Zs_r (Zs_m hz (by decide)) (by decide)) (by decide)) rfl rfl (by decide)) ?_
  refine Eq.trans (zx_go (t := zt_2) (pc' := 31) (L' := [some (.ref 128)]) (st' := [.int 60, .ref 128]) (μ' := zc len 116 (sl + 60 + 60 + 60) (zeU2 (zeU2 (zeU2 (rm) 128 1 (some 129)) 128 2 (some 130)) 128 3 (some 131)) (im) lm) rfl 3 rfl) ?_
  refine Eq.trans (zx_newa (t := zt_2) (pc := 31) (pc' := 33) (len := len) (n := 116) (k := 60) rfl rfl (Zs_r (Zs_r (Zs_r (Zs_m hz (by decide)) (by decide)) (by decide)) (by decide)) rfl rfl (by decide)) ?_
  refine Eq.trans (zx_go (t := zt_2) (pc' := 39) (L' := [some (.ref 128)]) (st' := [.int 60, .ref 128]) (μ' := zc len 117 (sl + 60 + 60 + 60 + 60) (zeU2 (zeU2 (zeU2 (zeU2 (rm) 128 1 (some 129)) 128 2 (some 130)) 128 3 (some 131)) 128 4 (some 132)) (im) lm) rfl 3 rfl) ?_
  refine Eq.trans (zx_newa (t := zt_2) (pc := 39) (pc' := 41) (len := len) (n := 117) (k := 60) rfl rfl (Zs_r (Zs_r (Zs_r (Zs_r (Zs_m hz (by decide)) (by decide)) (by decide)) (by decide)) (by decide)) rfl rfl (by decide)) ?_
  exact zx_ret (t := zt_2) rfl 2 rfl
theorem rj_27 {rm : zRm} (h : RJ rm) : RJ (rC_27 rm) := RJ_u (RJ_u (RJ_u (RJ_u (RJ_u (h) (by decide)) (by decide)) (by decide)) (by decide)) (by decide)
def rC_28 (rm : zRm) : zRm := zeU2 (rC_27 (zeU2 (rC_26 (zeU2 (rC_25 (zeU2 (rm) 119 4 (some 120))) 119 5 (some 121))) 119 6 (some 125))) 119 7 (some 128)
def iC_28 (im : zI) : zI := iC_27 (iC_26 (iC_25 (zeU2 (zeU2 (zeU2 (im) 120 0 10) 120 1 5) 120 2 50)))
theorem cq_28 {len : Nat} (sl : Nat) (rm : zRm) (im : zI) (lm : zJ) (hz : Zs 104 rm im lm) : zeRun 3 0 [some (.ref 119)] [] (zc len 104 sl rm im lm) = some (none, zc len 118 (sl + 3 + 8 + 6 + 6 + 6 + 3 + 6 + 6 + 6 + 60 + 60 + 60 + 60 + 60) (rC_28 rm) (iC_28 im) lm) ∧ Zs 118 (rC_28 rm) (iC_28 im) lm := by
  obtain ⟨e5, hz5⟩ := cq_25 (len := len) (sl + 3 + 8) (zeU2 (rm) 119 4 (some 120)) (zeU2 (zeU2 (zeU2 (im) 120 0 10) 120 1 5) 120 2 50) lm (Zs_r (Zs_i (Zs_i (Zs_i (Zs_m hz (by decide)) (by decide)) (by decide)) (by decide)) (by decide))
  obtain ⟨e10, hz10⟩ := cq_26 (len := len) (sl + 3 + 8 + 6 + 6 + 6 + 3) (zeU2 (rC_25 (zeU2 (rm) 119 4 (some 120))) 119 5 (some 121)) (iC_25 (zeU2 (zeU2 (zeU2 (im) 120 0 10) 120 1 5) 120 2 50)) lm (Zs_r (Zs_m hz5 (by decide)) (by decide))
  obtain ⟨e15, hz15⟩ := cq_27 (len := len) (sl + 3 + 8 + 6 + 6 + 6 + 3 + 6 + 6 + 6) (zeU2 (rC_26 (zeU2 (rC_25 (zeU2 (rm) 119 4 (some 120))) 119 5 (some 121))) 119 6 (some 125)) (iC_26 (iC_25 (zeU2 (zeU2 (zeU2 (im) 120 0 10) 120 1 5) 120 2 50))) lm (Zs_r (Zs_m hz10 (by decide)) (by decide))
  refine ⟨?_, (Zs_r (Zs_m hz15 (by decide)) (by decide))⟩
  refine Eq.trans (zx_go (t := zt_3) (pc' := 6) (L' := [some (.ref 119)]) (st' := [.int 3, .ref 119]) (μ' := zc len 104 (sl) (rm) (im) lm) rfl 4 rfl) ?_
  refine Eq.trans (zx_newa (t := zt_3) (pc := 6) (pc' := 8) (len := len) (n := 104) (k := 3) rfl rfl (Zs_m hz (by decide)) rfl rfl (by decide)) ?_
  refine Eq.trans (zx_go (t := zt_3) (pc' := 22) (L' := [some (.ref 119)]) (st' := [.ref 120, .ref 119]) (μ' := zc len 105 (sl + 3) (rm) (zeU2 (zeU2 (zeU2 (im) 120 0 10) 120 1 5) 120 2 50) lm) rfl 12 rfl) ?_
  refine Eq.trans (zx_go (t := zt_3) (pc' := 26) (L' := [some (.ref 119)]) (st' := [.ref 119]) (μ' := zc len 105 (sl + 3) (zeU2 (rm) 119 4 (some 120)) (zeU2 (zeU2 (zeU2 (im) 120 0 10) 120 1 5) 120 2 50) lm) rfl 2 rfl) ?_
  refine Eq.trans (zx_new (t := zt_3) (pc := 26) (pc' := 29) (len := len) (n := 105) rfl rfl (Zs_r (Zs_i (Zs_i (Zs_i (Zs_m hz (by decide)) (by decide)) (by decide)) (by decide)) (by decide)) rfl rfl) ?_
  refine Eq.trans (zx_call (t := zt_3) (j := 0) (pc' := 33) (L' := [some (.ref 119)]) (L2 := [some (.ref 121)]) (st' := [.ref 121, .ref 119]) (μ' := zc len 106 (sl + 3 + 8) (zeU2 (rm) 119 4 (some 120)) (zeU2 (zeU2 (zeU2 (im) 120 0 10) 120 1 5) 120 2 50) lm) rfl 2 rfl rfl) ?_
  rw [e5, zeBh_n]
  refine Eq.trans (zx_go (t := zt_3) (pc' := 37) (L' := [some (.ref 119)]) (st' := [.ref 119]) (μ' := zc len 109 (sl + 3 + 8 + 6 + 6 + 6) (zeU2 (rC_25 (zeU2 (rm) 119 4 (some 120))) 119 5 (some 121)) (iC_25 (zeU2 (zeU2 (zeU2 (im) 120 0 10) 120 1 5) 120 2 50)) lm) rfl 2 rfl) ?_
  refine Eq.trans (zx_new (t := zt_3) (pc := 37) (pc' := 40) (len := len) (n := 109) rfl rfl (Zs_r (Zs_m hz5 (by decide)) (by decide)) rfl rfl) ?_
  refine Eq.trans (zx_call (t := zt_3) (j := 1) (pc' := 44) (L' := [some (.ref 119)]) (L2 := [some (.ref 125), none]) (st' := [.ref 125, .ref 119]) (μ' := zc len 110 (sl + 3 + 8 + 6 + 6 + 6 + 3) (zeU2 (rC_25 (zeU2 (rm) 119 4 (some 120))) 119 5 (some 121)) (iC_25 (zeU2 (zeU2 (zeU2 (im) 120 0 10) 120 1 5) 120 2 50)) lm) rfl 2 rfl rfl) ?_
  rw [e10, zeBh_n]
  refine Eq.trans (zx_go (t := zt_3) (pc' := 48) (L' := [some (.ref 119)]) (st' := [.ref 119]) (μ' := zc len 112 (sl + 3 + 8 + 6 + 6 + 6 + 3 + 6 + 6) (zeU2 (rC_26 (zeU2 (rC_25 (zeU2 (rm) 119 4 (some 120))) 119 5 (some 121))) 119 6 (some 125)) (iC_26 (iC_25 (zeU2 (zeU2 (zeU2 (im) 120 0 10) 120 1 5) 120 2 50))) lm) rfl 2 rfl) ?_
  refine Eq.trans (zx_new (t := zt_3) (pc := 48) (pc' := 51) (len := len) (n := 112) rfl rfl (Zs_r (Zs_m hz10 (by decide)) (by decide)) rfl rfl) ?_
  refine Eq.trans (zx_call (t := zt_3) (j := 2) (pc' := 55) (L' := [some (.ref 119)]) (L2 := [some (.ref 128)]) (st' := [.ref 128, .ref 119]) (μ' := zc len 113 (sl + 3 + 8 + 6 + 6 + 6 + 3 + 6 + 6 + 6) (zeU2 (rC_26 (zeU2 (rC_25 (zeU2 (rm) 119 4 (some 120))) 119 5 (some 121))) 119 6 (some 125)) (iC_26 (iC_25 (zeU2 (zeU2 (zeU2 (im) 120 0 10) 120 1 5) 120 2 50))) lm) rfl 2 rfl rfl) ?_
  rw [e15, zeBh_n]
  exact zx_ret (t := zt_3) rfl 2 rfl
theorem rj_28 {rm : zRm} (h : RJ rm) : RJ (rC_28 rm) := RJ_u (rj_27 (RJ_u (rj_26 (RJ_u (rj_25 (RJ_u (h) (by decide))) (by decide))) (by decide))) (by decide)
def rC_29 (rm : zRm) : zRm := zeU2 (rC_28 (zeU2 (rC_24 (zeU2 (rC_20 (zeU2 (rC_16 (zeU2 (rC_12 (zeU2 (rC_8 (zeU2 (rm) 42 2 (some 43))) 43 0 (some 44))) 43 1 (some 59))) 43 2 (some 74))) 43 3 (some 89))) 43 4 (some 104))) 43 5 (some 119)
def iC_29 (im : zI) : zI := iC_28 (iC_24 (iC_20 (iC_16 (iC_12 (iC_8 (im))))))
theorem cq_29 {len : Nat} (sl : Nat) (rm : zRm) (im : zI) (lm : zJ) (hz : Zs 27 rm im lm) : zeRun 5 0 [some (.ref 42), none] [] (zc len 27 sl rm im lm) = some (none, zc len 118 (sl + 6 + 8 + 3 + 8 + 6 + 6 + 6 + 3 + 6 + 6 + 6 + 60 + 60 + 60 + 60 + 60 + 8 + 3 + 8 + 6 + 6 + 6 + 3 + 6 + 6 + 6 + 60 + 60 + 60 + 60 + 60 + 8 + 3 + 8 + 6 + 6 + 6 + 3 + 6 + 6 + 6 + 60 + 60 + 60 + 60 + 60 + 8 + 3 + 8 + 6 + 6 + 6 + 3 + 6 + 6 + 6 + 60 + 60 + 60 + 60 + 60 + 8 + 3 + 8 + 6 + 6 + 6 + 3 + 6 + 6 + 6 + 60 + 60 + 60 + 60 + 60 + 8 + 3 + 8 + 6 + 6 + 6 + 3 + 6 + 6 + 6 + 60 + 60 + 60 + 60 + 60) (rC_29 rm) (iC_29 im) lm) ∧ Zs 118 (rC_29 rm) (iC_29 im) lm := by
  obtain ⟨e4, hz4⟩ := cq_8 (len := len) (sl + 6 + 8) (zeU2 (rm) 42 2 (some 43)) (im) lm (Zs_r (Zs_m hz (by decide)) (by decide))
  obtain ⟨e9, hz9⟩ := cq_12 (len := len) (sl + 6 + 8 + 3 + 8 + 6 + 6 + 6 + 3 + 6 + 6 + 6 + 60 + 60 + 60 + 60 + 60 + 8) (zeU2 (rC_8 (zeU2 (rm) 42 2 (some 43))) 43 0 (some 44)) (iC_8 (im)) lm (Zs_r (Zs_m hz4 (by decide)) (by decide))
  obtain ⟨e14, hz14⟩ := cq_16 (len := len) (sl + 6 + 8 + 3 + 8 + 6 + 6 + 6 + 3 + 6 + 6 + 6 + 60 + 60 + 60 + 60 + 60 + 8 + 3 + 8 + 6 + 6 + 6 + 3 + 6 + 6 + 6 + 60 + 60 + 60 + 60 + 60 + 8) (zeU2 (rC_12 (zeU2 (rC_8 (zeU2 (rm) 42 2 (some 43))) 43 0 (some 44))) 43 1 (some 59)) (iC_12 (iC_8 (im))) lm (Zs_r (Zs_m hz9 (by decide)) (by decide))
  obtain ⟨e19, hz19⟩ := cq_20 (len := len) (sl + 6 + 8 + 3 + 8 + 6 + 6 + 6 + 3 + 6 + 6 + 6 + 60 + 60 + 60 + 60 + 60 + 8 + 3 + 8 + 6 + 6 + 6 + 3 + 6 + 6 + 6 + 60 + 60 + 60 + 60 + 60 + 8 + 3 + 8 + 6 + 6 + 6 + 3 + 6 + 6 + 6 + 60 + 60 + 60 + 60 + 60 + 8) (zeU2 (rC_16 (zeU2 (rC_12 (zeU2 (rC_8 (zeU2 (rm) 42 2 (some 43))) 43 0 (some 44))) 43 1 (some 59))) 43 2 (some 74)) (iC_16 (iC_12 (iC_8 (im)))) lm (Zs_r (Zs_m hz14 (by decide)) (by decide))
  obtain ⟨e24, hz24⟩ := cq_24 (len := len) (sl + 6 + 8 + 3 + 8 + 6 + 6 + 6 + 3 + 6 + 6 + 6 + 60 + 60 + 60 + 60 + 60 + 8 + 3 + 8 + 6 + 6 + 6 + 3 + 6 + 6 + 6 + 60 + 60 + 60 + 60 + 60 + 8 + 3 + 8 + 6 + 6 + 6 + 3 + 6 + 6 + 6 + 60 + 60 + 60 + 60 + 60 + 8 + 3 + 8 + 6 + 6 + 6 + 3 + 6 + 6 + 6 + 60 + 60 + 60 + 60 + 60 + 8) (zeU2 (rC_20 (zeU2 (rC_16 (zeU2 (rC_12 (zeU2 (rC_8 (zeU2 (rm) 42 2 (some 43))) 43 0 (some 44))) 43 1 (some 59))) 43 2 (some 74))) 43 3 (some 89)) (iC_20 (iC_16 (iC_12 (iC_8 (im))))) lm (Zs_r (Zs_m hz19 (by decide)) (by decide))
  obtain ⟨e29, hz29⟩ := cq_28 (len := len) (sl + 6 + 8 + 3 + 8 + 6 + 6 + 6 + 3 + 6 + 6 + 6 + 60 + 60 + 60 + 60 + 60 + 8 + 3 + 8 + 6 + 6 + 6 + 3 + 6 + 6 + 6 + 60 + 60 + 60 + 60 + 60 + 8 + 3 + 8 + 6 + 6 + 6 + 3 + 6 + 6 + 6 + 60 + 60 + 60 + 60 + 60 + 8 + 3 + 8 + 6 + 6 + 6 + 3 + 6 + 6 + 6 + 60 + 60 + 60 + 60 + 60 + 8 + 3 + 8 + 6 + 6 + 6 + 3 + 6 + 6 + 6 + 60 + 60 + 60 + 60 + 60 + 8) (zeU2 (rC_24 (zeU2 (rC_20 (zeU2 (rC_16 (zeU2 (rC_12 (zeU2 (rC_8 (zeU2 (rm) 42 2 (some 43))) 43 0 (some 44))) 43 1 (some 59))) 43 2 (some 74))) 43 3 (some 89))) 43 4 (some 104)) (iC_24 (iC_20 (iC_16 (iC_12 (iC_8 (im)))))) lm (Zs_r (Zs_m hz24 (by decide)) (by decide))
  refine ⟨?_, (Zs_r (Zs_m hz29 (by decide)) (by decide))⟩
  refine Eq.trans (zx_go (t := zt_5) (pc' := 7) (L' := [some (.ref 42), none]) (st' := [.int 6, .ref 42]) (μ' := zc len 27 (sl) (rm) (im) lm) rfl 4 rfl) ?_
  refine Eq.trans (zx_newa (t := zt_5) (pc := 7) (pc' := 10) (len := len) (n := 27) (k := 6) rfl rfl (Zs_m hz (by decide)) rfl rfl (by decide)) ?_
  refine Eq.trans (zx_go (t := zt_5) (pc' := 26) (L' := [some (.ref 42), some (.int 0)]) (st' := [.int 0, .ref 43]) (μ' := zc len 28 (sl + 6) (zeU2 (rm) 42 2 (some 43)) (im) lm) rfl 9 rfl) ?_
  refine Eq.trans (zx_new (t := zt_5) (pc := 26) (pc' := 29) (len := len) (n := 28) rfl rfl (Zs_r (Zs_m hz (by decide)) (by decide)) rfl rfl) ?_
  refine Eq.trans (zx_call (t := zt_5) (j := 3) (pc' := 33) (L' := [some (.ref 42), some (.int 0)]) (L2 := [some (.ref 44)]) (st' := [.ref 44, .int 0, .ref 43]) (μ' := zc len 29 (sl + 6 + 8) (zeU2 (rm) 42 2 (some 43)) (im) lm) rfl 2 rfl rfl) ?_
  rw [e4, zeBh_n]
  refine Eq.trans (zx_go (t := zt_5) (pc' := 26) (L' := [some (.ref 42), some (.int 1)]) (st' := [.int 1, .ref 43]) (μ' := zc len 43 (sl + 6 + 8 + 3 + 8 + 6 + 6 + 6 + 3 + 6 + 6 + 6 + 60 + 60 + 60 + 60 + 60) (zeU2 (rC_8 (zeU2 (rm) 42 2 (some 43))) 43 0 (some 44)) (iC_8 (im)) lm) rfl 9 rfl) ?_
  refine Eq.trans (zx_new (t := zt_5) (pc := 26) (pc' := 29) (len := len) (n := 43) rfl rfl (Zs_r (Zs_m hz4 (by decide)) (by decide)) rfl rfl) ?_
  refine Eq.trans (zx_call (t := zt_5) (j := 3) (pc' := 33) (L' := [some (.ref 42), some (.int 1)]) (L2 := [some (.ref 59)]) (st' := [.ref 59, .int 1, .ref 43]) (μ' := zc len 44 (sl + 6 + 8 + 3 + 8 + 6 + 6 + 6 + 3 + 6 + 6 + 6 + 60 + 60 + 60 + 60 + 60 + 8) (zeU2 (rC_8 (zeU2 (rm) 42 2 (some 43))) 43 0 (some 44)) (iC_8 (im)) lm) rfl 2 rfl rfl) ?_
  rw [e9, zeBh_n]
  refine Eq.trans (zx_go (t := zt_5) (pc' := 26) (L' := [some (.ref 42), some (.int 2)]) (st' := [.int 2, .ref 43]) (μ' := zc len 58 (sl + 6 + 8 + 3 + 8 + 6 + 6 + 6 + 3 + 6 + 6 + 6 + 60 + 60 + 60 + 60 + 60 + 8 + 3 + 8 + 6 + 6 + 6 + 3 + 6 + 6 + 6 + 60 + 60 + 60 + 60 + 60) (zeU2 (rC_12 (zeU2 (rC_8 (zeU2 (rm) 42 2 (some 43))) 43 0 (some 44))) 43 1 (some 59)) (iC_12 (iC_8 (im))) lm) rfl 9 rfl) ?_
  refine Eq.trans (zx_new (t := zt_5) (pc := 26) (pc' := 29) (len := len) (n := 58) rfl rfl (Zs_r (Zs_m hz9 (by decide)) (by decide)) rfl rfl) ?_
  refine Eq.trans (zx_call (t := zt_5) (j := 3) (pc' := 33) (L' := [some (.ref 42), some (.int 2)]) (L2 := [some (.ref 74)]) (st' := [.ref 74, .int 2, .ref 43]) (μ' := zc len 59 (sl + 6 + 8 + 3 + 8 + 6 + 6 + 6 + 3 + 6 + 6 + 6 + 60 + 60 + 60 + 60 + 60 + 8 + 3 + 8 + 6 + 6 + 6 + 3 + 6 + 6 + 6 + 60 + 60 + 60 + 60 + 60 + 8) (zeU2 (rC_12 (zeU2 (rC_8 (zeU2 (rm) 42 2 (some 43))) 43 0 (some 44))) 43 1 (some 59)) (iC_12 (iC_8 (im))) lm) rfl 2 rfl rfl) ?_
  rw [e14, zeBh_n]
  refine Eq.trans (zx_go (t := zt_5) (pc' := 26) (L' := [some (.ref 42), some (.int 3)]) (st' := [.int 3, .ref 43]) (μ' := zc len 73 (sl + 6 + 8 + 3 + 8 + 6 + 6 + 6 + 3 + 6 + 6 + 6 + 60 + 60 + 60 + 60 + 60 + 8 + 3 + 8 + 6 + 6 + 6 + 3 + 6 + 6 + 6 + 60 + 60 + 60 + 60 + 60 + 8 + 3 + 8 + 6 + 6 + 6 + 3 + 6 + 6 + 6 + 60 + 60 + 60 + 60 + 60) (zeU2 (rC_16 (zeU2 (rC_12 (zeU2 (rC_8 (zeU2 (rm) 42 2 (some 43))) 43 0 (some 44))) 43 1 (some 59))) 43 2 (some 74)) (iC_16 (iC_12 (iC_8 (im)))) lm) rfl 9 rfl) ?_
  refine Eq.trans (zx_new (t := zt_5) (pc := 26) (pc' := 29) (len := len) (n := 73) rfl rfl (Zs_r (Zs_m hz14 (by decide)) (by decide)) rfl rfl) ?_
  refine Eq.trans (zx_call (t := zt_5) (j := 3) (pc' := 33) (L' := [some (.ref 42), some (.int 3)]) (L2 := [some (.ref 89)]) (st' := [.ref 89, .int 3, .ref 43]) (μ' := zc len 74 (sl + 6 + 8 + 3 + 8 + 6 + 6 + 6 + 3 + 6 + 6 + 6 + 60 + 60 + 60 + 60 + 60 + 8 + 3 + 8 + 6 + 6 + 6 + 3 + 6 + 6 + 6 + 60 + 60 + 60 + 60 + 60 + 8 + 3 + 8 + 6 + 6 + 6 + 3 + 6 + 6 + 6 + 60 + 60 + 60 + 60 + 60 + 8) (zeU2 (rC_16 (zeU2 (rC_12 (zeU2 (rC_8 (zeU2 (rm) 42 2 (some 43))) 43 0 (some 44))) 43 1 (some 59))) 43 2 (some 74)) (iC_16 (iC_12 (iC_8 (im)))) lm) rfl 2 rfl rfl) ?_
  rw [e19, zeBh_n]
  refine Eq.trans (zx_go (t := zt_5) (pc' := 26) (L' := [some (.ref 42), some (.int 4)]) (st' := [.int 4, .ref 43]) (μ' := zc len 88 (sl + 6 + 8 + 3 + 8 + 6 + 6 + 6 + 3 + 6 + 6 + 6 + 60 + 60 + 60 + 60 + 60 + 8 + 3 + 8 + 6 + 6 + 6 + 3 + 6 + 6 + 6 + 60 + 60 + 60 + 60 + 60 + 8 + 3 + 8 + 6 + 6 + 6 + 3 + 6 + 6 + 6 + 60 + 60 + 60 + 60 + 60 + 8 + 3 + 8 + 6 + 6 + 6 + 3 + 6 + 6 + 6 + 60 + 60 + 60 + 60 + 60) (zeU2 (rC_20 (zeU2 (rC_16 (zeU2 (rC_12 (zeU2 (rC_8 (zeU2 (rm) 42 2 (some 43))) 43 0 (some 44))) 43 1 (some 59))) 43 2 (some 74))) 43 3 (some 89)) (iC_20 (iC_16 (iC_12 (iC_8 (im))))) lm) rfl 9 rfl) ?_
  refine Eq.trans (zx_new (t := zt_5) (pc := 26) (pc' := 29) (len := len) (n := 88) rfl rfl (Zs_r (Zs_m hz19 (by decide)) (by decide)) rfl rfl) ?_
  refine Eq.trans (zx_call (t := zt_5) (j := 3) (pc' := 33) (L' := [some (.ref 42), some (.int 4)]) (L2 := [some (.ref 104)]) (st' := [.ref 104, .int 4, .ref 43]) (μ' := zc len 89 (sl + 6 + 8 + 3 + 8 + 6 + 6 + 6 + 3 + 6 + 6 + 6 + 60 + 60 + 60 + 60 + 60 + 8 + 3 + 8 + 6 + 6 + 6 + 3 + 6 + 6 + 6 + 60 + 60 + 60 + 60 + 60 + 8 + 3 + 8 + 6 + 6 + 6 + 3 + 6 + 6 + 6 + 60 + 60 + 60 + 60 + 60 + 8 + 3 + 8 + 6 + 6 + 6 + 3 + 6 + 6 + 6 + 60 + 60 + 60 + 60 + 60 + 8) (zeU2 (rC_20 (zeU2 (rC_16 (zeU2 (rC_12 (zeU2 (rC_8 (zeU2 (rm) 42 2 (some 43))) 43 0 (some 44))) 43 1 (some 59))) 43 2 (some 74))) 43 3 (some 89)) (iC_20 (iC_16 (iC_12 (iC_8 (im))))) lm) rfl 2 rfl rfl) ?_
  rw [e24, zeBh_n]
  refine Eq.trans (zx_go (t := zt_5) (pc' := 26) (L' := [some (.ref 42), some (.int 5)]) (st' := [.int 5, .ref 43]) (μ' := zc len 103 (sl + 6 + 8 + 3 + 8 + 6 + 6 + 6 + 3 + 6 + 6 + 6 + 60 + 60 + 60 + 60 + 60 + 8 + 3 + 8 + 6 + 6 + 6 + 3 + 6 + 6 + 6 + 60 + 60 + 60 + 60 + 60 + 8 + 3 + 8 + 6 + 6 + 6 + 3 + 6 + 6 + 6 + 60 + 60 + 60 + 60 + 60 + 8 + 3 + 8 + 6 + 6 + 6 + 3 + 6 + 6 + 6 + 60 + 60 + 60 + 60 + 60 + 8 + 3 + 8 + 6 + 6 + 6 + 3 + 6 + 6 + 6 + 60 + 60 + 60 + 60 + 60) (zeU2 (rC_24 (zeU2 (rC_20 (zeU2 (rC_16 (zeU2 (rC_12 (zeU2 (rC_8 (zeU2 (rm) 42 2 (some 43))) 43 0 (some 44))) 43 1 (some 59))) 43 2 (some 74))) 43 3 (some 89))) 43 4 (some 104)) (iC_24 (iC_20 (iC_16 (iC_12 (iC_8 (im)))))) lm) rfl 9 rfl) ?_
  refine Eq.trans (zx_new (t := zt_5) (pc := 26) (pc' := 29) (len := len) (n := 103) rfl rfl (Zs_r (Zs_m hz24 (by decide)) (by decide)) rfl rfl) ?_
  refine Eq.trans (zx_call (t := zt_5) (j := 3) (pc' := 33) (L' := [some (.ref 42), some (.int 5)]) (L2 := [some (.ref 119)]) (st' := [.ref 119, .int 5, .ref 43]) (μ' := zc len 104 (sl + 6 + 8 + 3 + 8 + 6 + 6 + 6 + 3 + 6 + 6 + 6 + 60 + 60 + 60 + 60 + 60 + 8 + 3 + 8 + 6 + 6 + 6 + 3 + 6 + 6 + 6 + 60 + 60 + 60 + 60 + 60 + 8 + 3 + 8 + 6 + 6 + 6 + 3 + 6 + 6 + 6 + 60 + 60 + 60 + 60 + 60 + 8 + 3 + 8 + 6 + 6 + 6 + 3 + 6 + 6 + 6 + 60 + 60 + 60 + 60 + 60 + 8 + 3 + 8 + 6 + 6 + 6 + 3 + 6 + 6 + 6 + 60 + 60 + 60 + 60 + 60 + 8) (zeU2 (rC_24 (zeU2 (rC_20 (zeU2 (rC_16 (zeU2 (rC_12 (zeU2 (rC_8 (zeU2 (rm) 42 2 (some 43))) 43 0 (some 44))) 43 1 (some 59))) 43 2 (some 74))) 43 3 (some 89))) 43 4 (some 104)) (iC_24 (iC_20 (iC_16 (iC_12 (iC_8 (im)))))) lm) rfl 2 rfl rfl) ?_
  rw [e29, zeBh_n]
  exact zx_ret (t := zt_5) rfl 7 rfl
theorem rj_29 {rm : zRm} (h : RJ rm) : RJ (rC_29 rm) := RJ_u (rj_28 (RJ_u (rj_24 (RJ_u (rj_20 (RJ_u (rj_16 (RJ_u (rj_12 (RJ_u (rj_8 (RJ_u (h) (by decide))) (by decide))) (by decide))) (by decide))) (by decide))) (by decide))) (by decide)
