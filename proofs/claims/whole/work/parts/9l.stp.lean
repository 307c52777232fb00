/-! THE LAW: one call of it *-/
def LW (B : zeB) (im : zI) (lm : zJ) : Prop := ivE im lm ∧ OLD im ∧ B.1 ≤ 1000 ∧ B.2.1 ≤ 200000
theorem LW_fs {B : zeB} {im im2 : zI} {lm lm1 : zJ} (h : LW B im lm) (h1 : ivE im2 lm1) (h2 : FS im im2) : LW B im2 lm1 :=
  ⟨h1, OLD_fr (fun a ha => h2 a (Or.inl ha)) h.2.1, h.2.2⟩
def LwS (p : Nat) : Prop := ∀ (B : zeB) (im : zI) (lm : zJ) (i : Nat), LW B im lm → i + 3 ≤ B.len → B.len ≤ 100000 → ∃ B' im' lm', zeRun 212 p [some (.ref 0), some (.ref 16), some (.ref 170), some (.int (nn i))] [] (zk B im lm) = zeRun 212 814 [some (.ref 0), some (.ref 16), some (.ref 170), some (.int (nn i))] [] (zk B' im' lm') ∧ LW B' im' lm' ∧ B'.len = B.len
theorem in_1 {B : zeB} {i : Nat} (h : i + 3 ≤ B.len) (hB : B.len ≤ 100000) : zeInb (nn i + 1) B.len = true := by rw [nn_s1]; exact inb_nn _ _ (by omega) (by omega)
theorem in_2 {B : zeB} {i : Nat} (h : i + 3 ≤ B.len) (hB : B.len ≤ 100000) : zeInb (nn i + 2) B.len = true := by rw [show nn i + 2 = nn (i + 2) from nn_addr i 2]; exact inb_nn _ _ (by omega) (by omega)

theorem lw_0 : LwS 152 := by
  intro B im lm i hI h hB
  obtain ⟨r, im1, lm1, im2, a1, a2, a3, a4, a5⟩ := (st_22) im lm hI.1
  have e1 := m_22_ok (B := B) im lm r im1 lm1 a1
  have e2 := m_26_ok (B := B) im1 lm1 r im2 lm1 a2
  refine ⟨B, im2, lm1, ?_, LW_fs hI a3 a4, rfl⟩
  have f1 : zeRun 212 152 [some (.ref 0), some (.ref 16), some (.ref 170), some (.int (nn i))] [] (zk B im lm) = zeRun 212 156 [some (.ref 0), some (.ref 16), some (.ref 170), some (.int (nn i))] [.int r] (zk B im1 lm1) := (b_212_152 (nn i)).trans (by rw [e1]; rfl)
  have f2 : zeRun 212 156 [some (.ref 0), some (.ref 16), some (.ref 170), some (.int (nn i))] [.int r] (zk B im1 lm1) = zeRun 212 160 [some (.ref 0), some (.ref 16), some (.ref 170), some (.int (nn i))] [.int r, .int r] (zk B im2 lm1) := (b_212_156 (nn i) r).trans (by rw [e2]; rfl)
  rw [f1, f2, b_212_160, if_pos rfl]
theorem lw_2 : LwS 214 := by
  intro B im lm i hI h hB
  obtain ⟨r, im1, lm1, im2, a1, a2, a3, a4, a5⟩ := (st_36 (im 0 (nn i + 1).toNatClampNeg) (im 0 (nn i + 2).toNatClampNeg)) im lm hI.1
  have e1 := m_36_ok (B := B) (im 0 (nn i + 1).toNatClampNeg) (im 0 (nn i + 2).toNatClampNeg) im lm r im1 lm1 a1
  have e2 := m_37_ok (B := B) (im 0 (nn i + 1).toNatClampNeg) (im 0 (nn i + 2).toNatClampNeg) im1 lm1 r im2 lm1 a2
  refine ⟨B, im2, lm1, ?_, LW_fs hI a3 a4, rfl⟩
  have f1 : zeRun 212 214 [some (.ref 0), some (.ref 16), some (.ref 170), some (.int (nn i))] [] (zk B im lm) = zeRun 212 228 [some (.ref 0), some (.ref 16), some (.ref 170), some (.int (nn i))] [.int r] (zk B im1 lm1) := (b_212_214 (nn i) (c0 := in_1 h hB) (c1 := in_2 h hB)).trans (by rw [e1]; rfl)
  have f2 : zeRun 212 228 [some (.ref 0), some (.ref 16), some (.ref 170), some (.int (nn i))] [.int r] (zk B im1 lm1) = zeRun 212 242 [some (.ref 0), some (.ref 16), some (.ref 170), some (.int (nn i))] [.int r, .int r] (zk B im2 lm1) := (b_212_228 (nn i) r (c0 := in_1 h hB) (c1 := in_2 h hB)).trans (by rw [a5]; rw [e2]; rfl)
  rw [f1, f2, b_212_242, if_pos rfl]
theorem lw_3 : LwS 247 := by
  intro B im lm i hI h hB
  obtain ⟨r, im1, lm1, im2, a1, a2, a3, a4, a5⟩ := (st_43 (im 0 (nn i + 1).toNatClampNeg) (im 0 (nn i + 2).toNatClampNeg)) im lm hI.1
  have e1 := m_43_ok (B := B) (im 0 (nn i + 1).toNatClampNeg) (im 0 (nn i + 2).toNatClampNeg) im lm r im1 lm1 a1
  have e2 := m_51_ok (B := B) (im 0 (nn i + 1).toNatClampNeg) (im 0 (nn i + 2).toNatClampNeg) im1 lm1 r im2 lm1 a2
  refine ⟨B, im2, lm1, ?_, LW_fs hI a3 a4, rfl⟩
  have f1 : zeRun 212 247 [some (.ref 0), some (.ref 16), some (.ref 170), some (.int (nn i))] [] (zk B im lm) = zeRun 212 261 [some (.ref 0), some (.ref 16), some (.ref 170), some (.int (nn i))] [.int r] (zk B im1 lm1) := (b_212_247 (nn i) (c0 := in_1 h hB) (c1 := in_2 h hB)).trans (by rw [e1]; rfl)
  have f2 : zeRun 212 261 [some (.ref 0), some (.ref 16), some (.ref 170), some (.int (nn i))] [.int r] (zk B im1 lm1) = zeRun 212 275 [some (.ref 0), some (.ref 16), some (.ref 170), some (.int (nn i))] [.int r, .int r] (zk B im2 lm1) := (b_212_261 (nn i) r (c0 := in_1 h hB) (c1 := in_2 h hB)).trans (by rw [a5]; rw [e2]; rfl)
  rw [f1, f2, b_212_275, if_pos rfl]
theorem lw_4 : LwS 280 := by
  intro B im lm i hI h hB
  obtain ⟨r, im1, lm1, im2, a1, a2, a3, a4, a5⟩ := (st_59 (im 0 (nn i + 1).toNatClampNeg) (im 0 (nn i + 2).toNatClampNeg)) im lm hI.1
  have e1 := m_59_ok (B := B) (im 0 (nn i + 1).toNatClampNeg) (im 0 (nn i + 2).toNatClampNeg) im lm r im1 lm1 a1
  have e2 := m_66_ok (B := B) (im 0 (nn i + 1).toNatClampNeg) (im 0 (nn i + 2).toNatClampNeg) im1 lm1 r im2 lm1 a2
  refine ⟨B, im2, lm1, ?_, LW_fs hI a3 a4, rfl⟩
  have f1 : zeRun 212 280 [some (.ref 0), some (.ref 16), some (.ref 170), some (.int (nn i))] [] (zk B im lm) = zeRun 212 294 [some (.ref 0), some (.ref 16), some (.ref 170), some (.int (nn i))] [.int r] (zk B im1 lm1) := (b_212_280 (nn i) (c0 := in_1 h hB) (c1 := in_2 h hB)).trans (by rw [e1]; rfl)
  have f2 : zeRun 212 294 [some (.ref 0), some (.ref 16), some (.ref 170), some (.int (nn i))] [.int r] (zk B im1 lm1) = zeRun 212 308 [some (.ref 0), some (.ref 16), some (.ref 170), some (.int (nn i))] [.int r, .int r] (zk B im2 lm1) := (b_212_294 (nn i) r (c0 := in_1 h hB) (c1 := in_2 h hB)).trans (by rw [a5]; rw [e2]; rfl)
  rw [f1, f2, b_212_308, if_pos rfl]
theorem lw_6 : LwS 352 := by
  intro B im lm i hI h hB
  obtain ⟨r, im1, lm1, im2, a1, a2, a3, a4, a5⟩ := (st_93) im lm hI.1
  have e1 := m_93_ok (B := B) im lm r im1 lm1 a1
  have e2 := m_96_ok (B := B) im1 lm1 r im2 lm1 a2
  refine ⟨B, im2, lm1, ?_, LW_fs hI a3 a4, rfl⟩
  have f1 : zeRun 212 352 [some (.ref 0), some (.ref 16), some (.ref 170), some (.int (nn i))] [] (zk B im lm) = zeRun 212 356 [some (.ref 0), some (.ref 16), some (.ref 170), some (.int (nn i))] [.int r] (zk B im1 lm1) := (b_212_352 (nn i)).trans (by rw [e1]; rfl)
  have f2 : zeRun 212 356 [some (.ref 0), some (.ref 16), some (.ref 170), some (.int (nn i))] [.int r] (zk B im1 lm1) = zeRun 212 360 [some (.ref 0), some (.ref 16), some (.ref 170), some (.int (nn i))] [.int r, .int r] (zk B im2 lm1) := (b_212_356 (nn i) r).trans (by rw [e2]; rfl)
  rw [f1, f2, b_212_360, if_pos rfl]
theorem lw_7 : LwS 365 := by
  intro B im lm i hI h hB
  obtain ⟨r, im1, lm1, im2, a1, a2, a3, a4, a5⟩ := (st_98 (im 0 (nn i + 1).toNatClampNeg)) im lm hI.1
  have e1 := m_98_ok (B := B) (im 0 (nn i + 1).toNatClampNeg) im lm r im1 lm1 a1
  have e2 := m_102_ok (B := B) (im 0 (nn i + 1).toNatClampNeg) im1 lm1 r im2 lm1 a2
  refine ⟨B, im2, lm1, ?_, LW_fs hI a3 a4, rfl⟩
  have f1 : zeRun 212 365 [some (.ref 0), some (.ref 16), some (.ref 170), some (.int (nn i))] [] (zk B im lm) = zeRun 212 374 [some (.ref 0), some (.ref 16), some (.ref 170), some (.int (nn i))] [.int r] (zk B im1 lm1) := (b_212_365 (nn i) (c0 := in_1 h hB)).trans (by rw [e1]; rfl)
  have f2 : zeRun 212 374 [some (.ref 0), some (.ref 16), some (.ref 170), some (.int (nn i))] [.int r] (zk B im1 lm1) = zeRun 212 383 [some (.ref 0), some (.ref 16), some (.ref 170), some (.int (nn i))] [.int r, .int r] (zk B im2 lm1) := (b_212_374 (nn i) r (c0 := in_1 h hB)).trans (by rw [a5]; rw [e2]; rfl)
  rw [f1, f2, b_212_383, if_pos rfl]
theorem lw_8 : LwS 388 := by
  intro B im lm i hI h hB
  obtain ⟨r, im1, lm1, im2, a1, a2, a3, a4, a5⟩ := (st_105) im lm hI.1
  have e1 := m_105_ok (B := B) im lm r im1 lm1 a1
  have e2 := m_106_ok (B := B) im1 lm1 r im2 lm1 a2
  refine ⟨B, im2, lm1, ?_, LW_fs hI a3 a4, rfl⟩
  have f1 : zeRun 212 388 [some (.ref 0), some (.ref 16), some (.ref 170), some (.int (nn i))] [] (zk B im lm) = zeRun 212 392 [some (.ref 0), some (.ref 16), some (.ref 170), some (.int (nn i))] [.int r] (zk B im1 lm1) := (b_212_388 (nn i)).trans (by rw [e1]; rfl)
  have f2 : zeRun 212 392 [some (.ref 0), some (.ref 16), some (.ref 170), some (.int (nn i))] [.int r] (zk B im1 lm1) = zeRun 212 396 [some (.ref 0), some (.ref 16), some (.ref 170), some (.int (nn i))] [.int r, .int r] (zk B im2 lm1) := (b_212_392 (nn i) r).trans (by rw [e2]; rfl)
  rw [f1, f2, b_212_396, if_pos rfl]
theorem lw_9 : LwS 401 := by
  intro B im lm i hI h hB
  obtain ⟨r, im1, lm1, im2, a1, a2, a3, a4, a5⟩ := (st_110 (im 0 (nn i + 1).toNatClampNeg) (im 0 (nn i + 2).toNatClampNeg)) im lm hI.1
  have e1 := m_110_ok (B := B) (im 0 (nn i + 1).toNatClampNeg) (im 0 (nn i + 2).toNatClampNeg) im lm r im1 lm1 a1
  have e2 := m_111_ok (B := B) (im 0 (nn i + 1).toNatClampNeg) (im 0 (nn i + 2).toNatClampNeg) im1 lm1 r im2 lm1 a2
  refine ⟨B, im2, lm1, ?_, LW_fs hI a3 a4, rfl⟩
  have f1 : zeRun 212 401 [some (.ref 0), some (.ref 16), some (.ref 170), some (.int (nn i))] [] (zk B im lm) = zeRun 212 415 [some (.ref 0), some (.ref 16), some (.ref 170), some (.int (nn i))] [.int r] (zk B im1 lm1) := (b_212_401 (nn i) (c0 := in_1 h hB) (c1 := in_2 h hB)).trans (by rw [e1]; rfl)
  have f2 : zeRun 212 415 [some (.ref 0), some (.ref 16), some (.ref 170), some (.int (nn i))] [.int r] (zk B im1 lm1) = zeRun 212 429 [some (.ref 0), some (.ref 16), some (.ref 170), some (.int (nn i))] [.int r, .int r] (zk B im2 lm1) := (b_212_415 (nn i) r (c0 := in_1 h hB) (c1 := in_2 h hB)).trans (by rw [a5]; rw [e2]; rfl)
  rw [f1, f2, b_212_429, if_pos rfl]
theorem lw_10 : LwS 434 := by
  intro B im lm i hI h hB
  obtain ⟨r, im1, lm1, im2, a1, a2, a3, a4, a5⟩ := (st_113 (im 0 (nn i + 1).toNatClampNeg)) im lm hI.1
  have e1 := m_113_ok (B := B) (im 0 (nn i + 1).toNatClampNeg) im lm r im1 lm1 a1
  have e2 := m_114_ok (B := B) (im 0 (nn i + 1).toNatClampNeg) im1 lm1 r im2 lm1 a2
  refine ⟨B, im2, lm1, ?_, LW_fs hI a3 a4, rfl⟩
  have f1 : zeRun 212 434 [some (.ref 0), some (.ref 16), some (.ref 170), some (.int (nn i))] [] (zk B im lm) = zeRun 212 443 [some (.ref 0), some (.ref 16), some (.ref 170), some (.int (nn i))] [.int r] (zk B im1 lm1) := (b_212_434 (nn i) (c0 := in_1 h hB)).trans (by rw [e1]; rfl)
  have f2 : zeRun 212 443 [some (.ref 0), some (.ref 16), some (.ref 170), some (.int (nn i))] [.int r] (zk B im1 lm1) = zeRun 212 452 [some (.ref 0), some (.ref 16), some (.ref 170), some (.int (nn i))] [.int r, .int r] (zk B im2 lm1) := (b_212_443 (nn i) r (c0 := in_1 h hB)).trans (by rw [a5]; rw [e2]; rfl)
  rw [f1, f2, b_212_452, if_pos rfl]
theorem lw_11 : LwS 457 := by
  intro B im lm i hI h hB
  obtain ⟨r, im1, lm1, im2, a1, a2, a3, a4, a5⟩ := (st_116 (im 0 (nn i + 1).toNatClampNeg) (im 0 (nn i + 2).toNatClampNeg)) im lm hI.1
  have e1 := m_116_ok (B := B) (im 0 (nn i + 1).toNatClampNeg) (im 0 (nn i + 2).toNatClampNeg) im lm r im1 lm1 a1
  have e2 := m_117_ok (B := B) (im 0 (nn i + 1).toNatClampNeg) (im 0 (nn i + 2).toNatClampNeg) im1 lm1 r im2 lm1 a2
  refine ⟨B, im2, lm1, ?_, LW_fs hI a3 a4, rfl⟩
  have f1 : zeRun 212 457 [some (.ref 0), some (.ref 16), some (.ref 170), some (.int (nn i))] [] (zk B im lm) = zeRun 212 471 [some (.ref 0), some (.ref 16), some (.ref 170), some (.int (nn i))] [.int r] (zk B im1 lm1) := (b_212_457 (nn i) (c0 := in_1 h hB) (c1 := in_2 h hB)).trans (by rw [e1]; rfl)
  have f2 : zeRun 212 471 [some (.ref 0), some (.ref 16), some (.ref 170), some (.int (nn i))] [.int r] (zk B im1 lm1) = zeRun 212 485 [some (.ref 0), some (.ref 16), some (.ref 170), some (.int (nn i))] [.int r, .int r] (zk B im2 lm1) := (b_212_471 (nn i) r (c0 := in_1 h hB) (c1 := in_2 h hB)).trans (by rw [a5]; rw [e2]; rfl)
  rw [f1, f2, b_212_485, if_pos rfl]
theorem lw_12 : LwS 490 := by
  intro B im lm i hI h hB
  obtain ⟨r, im1, lm1, im2, a1, a2, a3, a4, a5⟩ := (st_122 (im 0 (nn i + 1).toNatClampNeg)) im lm hI.1
  have e1 := m_122_ok (B := B) (im 0 (nn i + 1).toNatClampNeg) im lm r im1 lm1 a1
  have e2 := m_124_ok (B := B) (im 0 (nn i + 1).toNatClampNeg) im1 lm1 r im2 lm1 a2
  refine ⟨B, im2, lm1, ?_, LW_fs hI a3 a4, rfl⟩
  have f1 : zeRun 212 490 [some (.ref 0), some (.ref 16), some (.ref 170), some (.int (nn i))] [] (zk B im lm) = zeRun 212 499 [some (.ref 0), some (.ref 16), some (.ref 170), some (.int (nn i))] [.int r] (zk B im1 lm1) := (b_212_490 (nn i) (c0 := in_1 h hB)).trans (by rw [e1]; rfl)
  have f2 : zeRun 212 499 [some (.ref 0), some (.ref 16), some (.ref 170), some (.int (nn i))] [.int r] (zk B im1 lm1) = zeRun 212 508 [some (.ref 0), some (.ref 16), some (.ref 170), some (.int (nn i))] [.int r, .int r] (zk B im2 lm1) := (b_212_499 (nn i) r (c0 := in_1 h hB)).trans (by rw [a5]; rw [e2]; rfl)
  rw [f1, f2, b_212_508, if_pos rfl]
theorem lw_13 : LwS 513 := by
  intro B im lm i hI h hB
  obtain ⟨r, im1, lm1, im2, a1, a2, a3, a4, a5⟩ := (st_126 (zfi2c (im 0 (nn i + 1).toNatClampNeg))) im lm hI.1
  have e1 := m_126_ok (B := B) (zfi2c (im 0 (nn i + 1).toNatClampNeg)) im lm r im1 lm1 a1
  have e2 := m_127_ok (B := B) (zfi2c (im 0 (nn i + 1).toNatClampNeg)) im1 lm1 r im2 lm1 a2
  refine ⟨B, im2, lm1, ?_, LW_fs hI a3 a4, rfl⟩
  have f1 : zeRun 212 513 [some (.ref 0), some (.ref 16), some (.ref 170), some (.int (nn i))] [] (zk B im lm) = zeRun 212 523 [some (.ref 0), some (.ref 16), some (.ref 170), some (.int (nn i))] [.int r] (zk B im1 lm1) := (b_212_513 (nn i) (c0 := in_1 h hB)).trans (by rw [e1]; rfl)
  have f2 : zeRun 212 523 [some (.ref 0), some (.ref 16), some (.ref 170), some (.int (nn i))] [.int r] (zk B im1 lm1) = zeRun 212 533 [some (.ref 0), some (.ref 16), some (.ref 170), some (.int (nn i))] [.int r, .int r] (zk B im2 lm1) := (b_212_523 (nn i) r (c0 := in_1 h hB)).trans (by rw [a5]; rw [e2]; rfl)
  rw [f1, f2, b_212_533, if_pos rfl]
theorem lw_14 : LwS 538 := by
  intro B im lm i hI h hB
  obtain ⟨r, im1, lm1, im2, a1, a2, a3, a4, a5⟩ := (st_128) im lm hI.1
  have e1 := m_128_ok (B := B) im lm r im1 lm1 a1
  have e2 := m_129_ok (B := B) im1 lm1 r im2 lm1 a2
  refine ⟨B, im2, lm1, ?_, LW_fs hI a3 a4, rfl⟩
  have f1 : zeRun 212 538 [some (.ref 0), some (.ref 16), some (.ref 170), some (.int (nn i))] [] (zk B im lm) = zeRun 212 542 [some (.ref 0), some (.ref 16), some (.ref 170), some (.int (nn i))] [.int r] (zk B im1 lm1) := (b_212_538 (nn i)).trans (by rw [e1]; rfl)
  have f2 : zeRun 212 542 [some (.ref 0), some (.ref 16), some (.ref 170), some (.int (nn i))] [.int r] (zk B im1 lm1) = zeRun 212 546 [some (.ref 0), some (.ref 16), some (.ref 170), some (.int (nn i))] [.int r, .int r] (zk B im2 lm1) := (b_212_542 (nn i) r).trans (by rw [e2]; rfl)
  rw [f1, f2, b_212_546, if_pos rfl]
theorem lw_15 : LwS 551 := by
  intro B im lm i hI h hB
  obtain ⟨r, im1, lm1, im2, a1, a2, a3, a4, a5⟩ := (st_138) im lm hI.1
  have e1 := m_138_ok (B := B) im lm r im1 lm1 a1
  have e2 := m_143_ok (B := B) im1 lm1 r im2 lm1 a2
  refine ⟨B, im2, lm1, ?_, LW_fs hI a3 a4, rfl⟩
  have f1 : zeRun 212 551 [some (.ref 0), some (.ref 16), some (.ref 170), some (.int (nn i))] [] (zk B im lm) = zeRun 212 555 [some (.ref 0), some (.ref 16), some (.ref 170), some (.int (nn i))] [.int r] (zk B im1 lm1) := (b_212_551 (nn i)).trans (by rw [e1]; rfl)
  have f2 : zeRun 212 555 [some (.ref 0), some (.ref 16), some (.ref 170), some (.int (nn i))] [.int r] (zk B im1 lm1) = zeRun 212 559 [some (.ref 0), some (.ref 16), some (.ref 170), some (.int (nn i))] [.int r, .int r] (zk B im2 lm1) := (b_212_555 (nn i) r).trans (by rw [e2]; rfl)
  rw [f1, f2, b_212_559, if_pos rfl]
theorem lw_16 : LwS 564 := by
  intro B im lm i hI h hB
  obtain ⟨r, im1, lm1, im2, a1, a2, a3, a4, a5⟩ := (st_146) im lm hI.1
  have e1 := m_146_ok (B := B) im lm r im1 lm1 a1
  have e2 := m_147_ok (B := B) im1 lm1 r im2 lm1 a2
  refine ⟨B, im2, lm1, ?_, LW_fs hI a3 a4, rfl⟩
  have f1 : zeRun 212 564 [some (.ref 0), some (.ref 16), some (.ref 170), some (.int (nn i))] [] (zk B im lm) = zeRun 212 568 [some (.ref 0), some (.ref 16), some (.ref 170), some (.int (nn i))] [.int r] (zk B im1 lm1) := (b_212_564 (nn i)).trans (by rw [e1]; rfl)
  have f2 : zeRun 212 568 [some (.ref 0), some (.ref 16), some (.ref 170), some (.int (nn i))] [.int r] (zk B im1 lm1) = zeRun 212 572 [some (.ref 0), some (.ref 16), some (.ref 170), some (.int (nn i))] [.int r, .int r] (zk B im2 lm1) := (b_212_568 (nn i) r).trans (by rw [e2]; rfl)
  rw [f1, f2, b_212_572, if_pos rfl]
theorem lw_17 : LwS 577 := by
  intro B im lm i hI h hB
  obtain ⟨r, im1, lm1, im2, a1, a2, a3, a4, a5⟩ := (st_149 (im 0 (nn i + 1).toNatClampNeg)) im lm hI.1
  have e1 := m_149_ok (B := B) (im 0 (nn i + 1).toNatClampNeg) im lm r im1 lm1 a1
  have e2 := m_150_ok (B := B) (im 0 (nn i + 1).toNatClampNeg) im1 lm1 r im2 lm1 a2
  refine ⟨B, im2, lm1, ?_, LW_fs hI a3 a4, rfl⟩
  have f1 : zeRun 212 577 [some (.ref 0), some (.ref 16), some (.ref 170), some (.int (nn i))] [] (zk B im lm) = zeRun 212 586 [some (.ref 0), some (.ref 16), some (.ref 170), some (.int (nn i))] [.int r] (zk B im1 lm1) := (b_212_577 (nn i) (c0 := in_1 h hB)).trans (by rw [e1]; rfl)
  have f2 : zeRun 212 586 [some (.ref 0), some (.ref 16), some (.ref 170), some (.int (nn i))] [.int r] (zk B im1 lm1) = zeRun 212 595 [some (.ref 0), some (.ref 16), some (.ref 170), some (.int (nn i))] [.int r, .int r] (zk B im2 lm1) := (b_212_586 (nn i) r (c0 := in_1 h hB)).trans (by rw [a5]; rw [e2]; rfl)
  rw [f1, f2, b_212_595, if_pos rfl]
theorem lw_18 : LwS 600 := by
  intro B im lm i hI h hB
  obtain ⟨r, im1, lm1, im2, a1, a2, a3, a4, a5⟩ := (st_151 (im 0 (nn i + 1).toNatClampNeg)) im lm hI.1
  have e1 := m_151_ok (B := B) (im 0 (nn i + 1).toNatClampNeg) im lm r im1 lm1 a1
  have e2 := m_152_ok (B := B) (im 0 (nn i + 1).toNatClampNeg) im1 lm1 r im2 lm1 a2
  refine ⟨B, im2, lm1, ?_, LW_fs hI a3 a4, rfl⟩
  have f1 : zeRun 212 600 [some (.ref 0), some (.ref 16), some (.ref 170), some (.int (nn i))] [] (zk B im lm) = zeRun 212 609 [some (.ref 0), some (.ref 16), some (.ref 170), some (.int (nn i))] [.int r] (zk B im1 lm1) := (b_212_600 (nn i) (c0 := in_1 h hB)).trans (by rw [e1]; rfl)
  have f2 : zeRun 212 609 [some (.ref 0), some (.ref 16), some (.ref 170), some (.int (nn i))] [.int r] (zk B im1 lm1) = zeRun 212 618 [some (.ref 0), some (.ref 16), some (.ref 170), some (.int (nn i))] [.int r, .int r] (zk B im2 lm1) := (b_212_609 (nn i) r (c0 := in_1 h hB)).trans (by rw [a5]; rw [e2]; rfl)
  rw [f1, f2, b_212_618, if_pos rfl]
theorem lw_19 : LwS 623 := by
  intro B im lm i hI h hB
  obtain ⟨r, im1, lm1, im2, a1, a2, a3, a4, a5⟩ := (st_156 (im 0 (nn i + 1).toNatClampNeg) (im 0 (nn i + 2).toNatClampNeg)) im lm hI.1
  have e1 := m_156_ok (B := B) (im 0 (nn i + 1).toNatClampNeg) (im 0 (nn i + 2).toNatClampNeg) im lm r im1 lm1 a1
  have e2 := m_161_ok (B := B) (im 0 (nn i + 1).toNatClampNeg) (im 0 (nn i + 2).toNatClampNeg) im1 lm1 r im2 lm1 a2
  refine ⟨B, im2, lm1, ?_, LW_fs hI a3 a4, rfl⟩
  have f1 : zeRun 212 623 [some (.ref 0), some (.ref 16), some (.ref 170), some (.int (nn i))] [] (zk B im lm) = zeRun 212 637 [some (.ref 0), some (.ref 16), some (.ref 170), some (.int (nn i))] [.int r] (zk B im1 lm1) := (b_212_623 (nn i) (c0 := in_1 h hB) (c1 := in_2 h hB)).trans (by rw [e1]; rfl)
  have f2 : zeRun 212 637 [some (.ref 0), some (.ref 16), some (.ref 170), some (.int (nn i))] [.int r] (zk B im1 lm1) = zeRun 212 651 [some (.ref 0), some (.ref 16), some (.ref 170), some (.int (nn i))] [.int r, .int r] (zk B im2 lm1) := (b_212_637 (nn i) r (c0 := in_1 h hB) (c1 := in_2 h hB)).trans (by rw [a5]; rw [e2]; rfl)
  rw [f1, f2, b_212_651, if_pos rfl]
theorem lw_20 : LwS 656 := by
  intro B im lm i hI h hB
  obtain ⟨r, im1, lm1, im2, a1, a2, a3, a4, a5⟩ := (st_163 (im 0 (nn i + 1).toNatClampNeg)) im lm hI.1
  have e1 := m_163_ok (B := B) (im 0 (nn i + 1).toNatClampNeg) im lm r im1 lm1 a1
  have e2 := m_165_ok (B := B) (im 0 (nn i + 1).toNatClampNeg) im1 lm1 r im2 lm1 a2
  refine ⟨B, im2, lm1, ?_, LW_fs hI a3 a4, rfl⟩
  have f1 : zeRun 212 656 [some (.ref 0), some (.ref 16), some (.ref 170), some (.int (nn i))] [] (zk B im lm) = zeRun 212 665 [some (.ref 0), some (.ref 16), some (.ref 170), some (.int (nn i))] [.int r] (zk B im1 lm1) := (b_212_656 (nn i) (c0 := in_1 h hB)).trans (by rw [e1]; rfl)
  have f2 : zeRun 212 665 [some (.ref 0), some (.ref 16), some (.ref 170), some (.int (nn i))] [.int r] (zk B im1 lm1) = zeRun 212 674 [some (.ref 0), some (.ref 16), some (.ref 170), some (.int (nn i))] [.int r, .int r] (zk B im2 lm1) := (b_212_665 (nn i) r (c0 := in_1 h hB)).trans (by rw [a5]; rw [e2]; rfl)
  rw [f1, f2, b_212_674, if_pos rfl]
theorem lw_21 : LwS 679 := by
  intro B im lm i hI h hB
  obtain ⟨r, im1, lm1, im2, a1, a2, a3, a4, a5⟩ := (st_166 (im 0 (nn i + 1).toNatClampNeg)) im lm hI.1
  have e1 := m_166_ok (B := B) (im 0 (nn i + 1).toNatClampNeg) im lm r im1 lm1 a1
  have e2 := m_167_ok (B := B) (im 0 (nn i + 1).toNatClampNeg) im1 lm1 r im2 lm1 a2
  refine ⟨B, im2, lm1, ?_, LW_fs hI a3 a4, rfl⟩
  have f1 : zeRun 212 679 [some (.ref 0), some (.ref 16), some (.ref 170), some (.int (nn i))] [] (zk B im lm) = zeRun 212 688 [some (.ref 0), some (.ref 16), some (.ref 170), some (.int (nn i))] [.int r] (zk B im1 lm1) := (b_212_679 (nn i) (c0 := in_1 h hB)).trans (by rw [e1]; rfl)
  have f2 : zeRun 212 688 [some (.ref 0), some (.ref 16), some (.ref 170), some (.int (nn i))] [.int r] (zk B im1 lm1) = zeRun 212 697 [some (.ref 0), some (.ref 16), some (.ref 170), some (.int (nn i))] [.int r, .int r] (zk B im2 lm1) := (b_212_688 (nn i) r (c0 := in_1 h hB)).trans (by rw [a5]; rw [e2]; rfl)
  rw [f1, f2, b_212_697, if_pos rfl]
theorem lw_22 : LwS 702 := by
  intro B im lm i hI h hB
  obtain ⟨r, im1, lm1, im2, a1, a2, a3, a4, a5⟩ := (st_169 (im 0 (nn i + 1).toNatClampNeg) (im 0 (nn i + 2).toNatClampNeg)) im lm hI.1
  have e1 := m_169_ok (B := B) (im 0 (nn i + 1).toNatClampNeg) (im 0 (nn i + 2).toNatClampNeg) im lm r im1 lm1 a1
  have e2 := m_171_ok (B := B) (im 0 (nn i + 1).toNatClampNeg) (im 0 (nn i + 2).toNatClampNeg) im1 lm1 r im2 lm1 a2
  refine ⟨B, im2, lm1, ?_, LW_fs hI a3 a4, rfl⟩
  have f1 : zeRun 212 702 [some (.ref 0), some (.ref 16), some (.ref 170), some (.int (nn i))] [] (zk B im lm) = zeRun 212 716 [some (.ref 0), some (.ref 16), some (.ref 170), some (.int (nn i))] [.int r] (zk B im1 lm1) := (b_212_702 (nn i) (c0 := in_1 h hB) (c1 := in_2 h hB)).trans (by rw [e1]; rfl)
  have f2 : zeRun 212 716 [some (.ref 0), some (.ref 16), some (.ref 170), some (.int (nn i))] [.int r] (zk B im1 lm1) = zeRun 212 730 [some (.ref 0), some (.ref 16), some (.ref 170), some (.int (nn i))] [.int r, .int r] (zk B im2 lm1) := (b_212_716 (nn i) r (c0 := in_1 h hB) (c1 := in_2 h hB)).trans (by rw [a5]; rw [e2]; rfl)
  rw [f1, f2, b_212_730, if_pos rfl]
theorem lw_23 : LwS 735 := by
  intro B im lm i hI h hB
  obtain ⟨r, im1, lm1, im2, a1, a2, a3, a4, a5⟩ := (st_172 (im 0 (nn i + 1).toNatClampNeg) (im 0 (nn i + 2).toNatClampNeg)) im lm hI.1
  have e1 := m_172_ok (B := B) (im 0 (nn i + 1).toNatClampNeg) (im 0 (nn i + 2).toNatClampNeg) im lm r im1 lm1 a1
  have e2 := m_173_ok (B := B) (im 0 (nn i + 1).toNatClampNeg) (im 0 (nn i + 2).toNatClampNeg) im1 lm1 r im2 lm1 a2
  refine ⟨B, im2, lm1, ?_, LW_fs hI a3 a4, rfl⟩
  have f1 : zeRun 212 735 [some (.ref 0), some (.ref 16), some (.ref 170), some (.int (nn i))] [] (zk B im lm) = zeRun 212 749 [some (.ref 0), some (.ref 16), some (.ref 170), some (.int (nn i))] [.int r] (zk B im1 lm1) := (b_212_735 (nn i) (c0 := in_1 h hB) (c1 := in_2 h hB)).trans (by rw [e1]; rfl)
  have f2 : zeRun 212 749 [some (.ref 0), some (.ref 16), some (.ref 170), some (.int (nn i))] [.int r] (zk B im1 lm1) = zeRun 212 763 [some (.ref 0), some (.ref 16), some (.ref 170), some (.int (nn i))] [.int r, .int r] (zk B im2 lm1) := (b_212_749 (nn i) r (c0 := in_1 h hB) (c1 := in_2 h hB)).trans (by rw [a5]; rw [e2]; rfl)
  rw [f1, f2, b_212_763, if_pos rfl]
theorem lw_24 : LwS 768 := by
  intro B im lm i hI h hB
  obtain ⟨r, im1, lm1, im2, a1, a2, a3, a4, a5⟩ := (st_177 (im 0 (nn i + 1).toNatClampNeg)) im lm hI.1
  have e1 := m_177_ok (B := B) (im 0 (nn i + 1).toNatClampNeg) im lm r im1 lm1 a1
  have e2 := m_179_ok (B := B) (im 0 (nn i + 1).toNatClampNeg) im1 lm1 r im2 lm1 a2
  refine ⟨B, im2, lm1, ?_, LW_fs hI a3 a4, rfl⟩
  have f1 : zeRun 212 768 [some (.ref 0), some (.ref 16), some (.ref 170), some (.int (nn i))] [] (zk B im lm) = zeRun 212 777 [some (.ref 0), some (.ref 16), some (.ref 170), some (.int (nn i))] [.int r] (zk B im1 lm1) := (b_212_768 (nn i) (c0 := in_1 h hB)).trans (by rw [e1]; rfl)
  have f2 : zeRun 212 777 [some (.ref 0), some (.ref 16), some (.ref 170), some (.int (nn i))] [.int r] (zk B im1 lm1) = zeRun 212 786 [some (.ref 0), some (.ref 16), some (.ref 170), some (.int (nn i))] [.int r, .int r] (zk B im2 lm1) := (b_212_777 (nn i) r (c0 := in_1 h hB)).trans (by rw [a5]; rw [e2]; rfl)
  rw [f1, f2, b_212_786, if_pos rfl]
theorem lw_1 : LwS 165 := by
  intro B im lm i hI h hB
  by_cases g : (im 0 (nn i + 2).toNatClampNeg) = 0
  · obtain ⟨r, im1, lm1, im2, a1, a2, a3, a4, a5⟩ := (st_31 (im 0 (nn i + 1).toNatClampNeg) 0) im lm hI.1
    have e1 := m_31_ok (B := B) (im 0 (nn i + 1).toNatClampNeg) 0 im lm r im1 lm1 a1
    have e2 := m_34_ok (B := B) (im 0 (nn i + 1).toNatClampNeg) 0 im1 lm1 r im2 lm1 a2
    refine ⟨B, im2, lm1, ?_, LW_fs hI a3 a4, rfl⟩
    rw [b_212_165 (nn i) (c0 := in_1 h hB) (c1 := in_2 h hB), if_pos g, b_212_183, e1]
    show zeRun 212 187 [some (.ref 0), some (.ref 16), some (.ref 170), some (.int (nn i))] [.int r] (zk B im1 lm1) = _
    rw [b_212_187 (nn i) r (c0 := in_1 h hB) (c1 := in_2 h hB), a5, if_pos g, b_212_205, e2]
    show zeRun 212 209 [some (.ref 0), some (.ref 16), some (.ref 170), some (.int (nn i))] [.int r, .int r] (zk B im2 lm1) = _
    rw [b_212_209, if_pos rfl]
  · obtain ⟨r, im1, lm1, im2, a1, a2, a3, a4, a5⟩ := (st_31 (im 0 (nn i + 1).toNatClampNeg) 1) im lm hI.1
    have e1 := m_31_ok (B := B) (im 0 (nn i + 1).toNatClampNeg) 1 im lm r im1 lm1 a1
    have e2 := m_34_ok (B := B) (im 0 (nn i + 1).toNatClampNeg) 1 im1 lm1 r im2 lm1 a2
    refine ⟨B, im2, lm1, ?_, LW_fs hI a3 a4, rfl⟩
    rw [b_212_165 (nn i) (c0 := in_1 h hB) (c1 := in_2 h hB), if_neg g, b_212_179, e1]
    show zeRun 212 187 [some (.ref 0), some (.ref 16), some (.ref 170), some (.int (nn i))] [.int r] (zk B im1 lm1) = _
    rw [b_212_187 (nn i) r (c0 := in_1 h hB) (c1 := in_2 h hB), a5, if_neg g, b_212_201, e2]
    show zeRun 212 209 [some (.ref 0), some (.ref 16), some (.ref 170), some (.int (nn i))] [.int r, .int r] (zk B im2 lm1) = _
    rw [b_212_209, if_pos rfl]
theorem lw_5 : LwS 313 := by
  intro B im lm i hI h hB
  by_cases g : (im 0 (nn i + 1).toNatClampNeg) = 0
  · obtain ⟨r, im1, lm1, im2, a1, a2, a3, a4, a5⟩ := (st_86 0) im lm hI.1
    have e1 := m_86_ok (B := B) 0 im lm r im1 lm1 a1
    have e2 := m_91_ok (B := B) 0 im1 lm1 r im2 lm1 a2
    refine ⟨B, im2, lm1, ?_, LW_fs hI a3 a4, rfl⟩
    rw [b_212_313 (nn i) (c0 := in_1 h hB), if_pos g, b_212_326, e1]
    show zeRun 212 330 [some (.ref 0), some (.ref 16), some (.ref 170), some (.int (nn i))] [.int r] (zk B im1 lm1) = _
    rw [b_212_330 (nn i) r (c0 := in_1 h hB), a5, if_pos g, b_212_343, e2]
    show zeRun 212 347 [some (.ref 0), some (.ref 16), some (.ref 170), some (.int (nn i))] [.int r, .int r] (zk B im2 lm1) = _
    rw [b_212_347, if_pos rfl]
  · obtain ⟨r, im1, lm1, im2, a1, a2, a3, a4, a5⟩ := (st_86 1) im lm hI.1
    have e1 := m_86_ok (B := B) 1 im lm r im1 lm1 a1
    have e2 := m_91_ok (B := B) 1 im1 lm1 r im2 lm1 a2
    refine ⟨B, im2, lm1, ?_, LW_fs hI a3 a4, rfl⟩
    rw [b_212_313 (nn i) (c0 := in_1 h hB), if_neg g, b_212_322, e1]
    show zeRun 212 330 [some (.ref 0), some (.ref 16), some (.ref 170), some (.int (nn i))] [.int r] (zk B im1 lm1) = _
    rw [b_212_330 (nn i) r (c0 := in_1 h hB), a5, if_neg g, b_212_339, e2]
    show zeRun 212 347 [some (.ref 0), some (.ref 16), some (.ref 170), some (.int (nn i))] [.int r, .int r] (zk B im2 lm1) = _
    rw [b_212_347, if_pos rfl]
theorem lw_25 : LwS 791 := by
  intro B im lm i hI h hB
  obtain ⟨⟨R, q, X, hG, hX, hn, hc, hR, hq, hm⟩, hO, hS⟩ := id hI
  by_cases g : (im 0 (nn i + 1).toNatClampNeg) < 0
  · have e1 := m_208_ok (B := B) (im 0 (nn i + 1).toNatClampNeg) im lm (-10000002) im lm (msgA_n _ g im lm)
    have e2 := m_211_ok (B := B) (im 0 (nn i + 1).toNatClampNeg) im lm (-10000002) im lm (msgM_n _ g im lm)
    refine ⟨B, im, lm, ?_, hI, rfl⟩
    rw [b_212_791 (nn i) (c0 := in_1 h hB), e1]
    show zeRun 212 800 [some (.ref 0), some (.ref 16), some (.ref 170), some (.int (nn i))] [.int (-10000002)] (zk B im lm) = _
    rw [b_212_800 (nn i) _ (c0 := in_1 h hB), e2]
    show zeRun 212 809 [some (.ref 0), some (.ref 16), some (.ref 170), some (.int (nn i))] [.int (-10000002), .int (-10000002)] (zk B im lm) = _
    rw [b_212_809, if_pos rfl]
  · obtain ⟨im1, a1, a4⟩ := msgA (lm := lm) hG hn hO (im 0 (nn i + 1).toNatClampNeg) g
    obtain ⟨im2, b1, b2, b3, b4⟩ := msgM hG lm ((a4 171 (by decide) (by decide)).trans hR) (im 0 (nn i + 1).toNatClampNeg) g
    generalize ((txt R (rN R))[(im 0 (nn i + 1).toNatClampNeg).toNatClampNeg]?).getD (-10000005) = r at a1 b1
    have e1 := m_208_ok (B := B) (im 0 (nn i + 1).toNatClampNeg) im lm r im1 lm a1
    have e2 := m_211_ok (B := B) (im 0 (nn i + 1).toNatClampNeg) im1 lm r im2 lm b1
    have h0 : im1 0 = im 0 := a4 0 (by decide) (by decide)
    refine ⟨B, im2, lm, ?_, ⟨?_, ?_, hS⟩, rfl⟩
    · rw [b_212_791 (nn i) (c0 := in_1 h hB), e1]
      show zeRun 212 800 [some (.ref 0), some (.ref 16), some (.ref 170), some (.int (nn i))] [.int r] (zk B im1 lm) = _
      rw [b_212_800 (nn i) r (c0 := in_1 h hB), h0, e2]
      show zeRun 212 809 [some (.ref 0), some (.ref 16), some (.ref 170), some (.int (nn i))] [.int r, .int r] (zk B im2 lm) = _
      rw [b_212_809, if_pos rfl]
    · refine iv_mk hG hX (NW_fc hG a4 hn) (CX_of hX (fun a h1 h2 => ⟨a4 a (by omega) (by omega), rfl⟩) hc) (FM_fr b2) b3 ?_ (MX_fm b2 (MX_fr (fun a ha => a4 a (by omega) (by omega)) hm))
      rw [b4, a4 170 (by decide) (by decide)]; exact hq
    · exact OLD_fr (fun a ha => by rw [FM_fr b2 a (by omega), a4 a (by omega) (by omega)]) hO
theorem sw_mem (x : Int32) (d : Nat) : ∀ l : List (Int32 × Nat), zeSw x d l = d ∨ ∃ y, y ∈ l ∧ zeSw x d l = y.2 := by
  intro l
  induction l with
  | nil => exact Or.inl rfl
  | cons a l ih =>
    obtain ⟨k, t⟩ := a
    show (if x = k then t else zeSw x d l) = d ∨ ∃ y, y ∈ (k, t) :: l ∧ (if x = k then t else zeSw x d l) = y.2
    by_cases g : x = k
    · rw [if_pos g]; exact Or.inr ⟨(k, t), List.mem_cons_self, rfl⟩
    · rw [if_neg g]
      rcases ih with h | ⟨y, h1, h2⟩
      · exact Or.inl h
      · exact Or.inr ⟨y, List.mem_cons_of_mem _ h1, h2⟩
theorem lw_814 : LwS 814 := fun B im lm i hI _ _ => ⟨B, im, lm, rfl, hI, rfl⟩
theorem lw_all : ∀ y : Int32 × Nat, y ∈ ([(0, 152), (1, 165), (2, 214), (3, 247), (4, 280), (5, 313), (6, 352), (7, 365), (8, 388), (9, 401), (10, 434), (11, 457), (12, 490), (13, 513), (14, 538), (15, 551), (16, 564), (17, 577), (18, 600), (19, 623), (20, 656), (21, 679), (22, 702), (23, 735), (24, 768), (25, 791)] : List (Int32 × Nat)) → LwS y.2 := by
  intro y hy
  simp only [List.mem_cons, List.not_mem_nil, or_false] at hy
  rcases hy with rfl | rfl | rfl | rfl | rfl | rfl | rfl | rfl | rfl | rfl | rfl | rfl | rfl | rfl | rfl | rfl | rfl | rfl | rfl | rfl | rfl | rfl | rfl | rfl | rfl | rfl
  · exact lw_0
  · exact lw_1
  · exact lw_2
  · exact lw_3
  · exact lw_4
  · exact lw_5
  · exact lw_6
  · exact lw_7
  · exact lw_8
  · exact lw_9
  · exact lw_10
  · exact lw_11
  · exact lw_12
  · exact lw_13
  · exact lw_14
  · exact lw_15
  · exact lw_16
  · exact lw_17
  · exact lw_18
  · exact lw_19
  · exact lw_20
  · exact lw_21
  · exact lw_22
  · exact lw_23
  · exact lw_24
  · exact lw_25
/-- one round of the loop -/
theorem lw_rd {B : zeB} {im : zI} {lm : zJ} {i : Nat} (hI : LW B im lm) (h : i + 3 ≤ B.len) (hB : B.len ≤ 100000) : ∃ B' im' lm', zeRun 212 26 [some (.ref 0), some (.ref 16), some (.ref 170), some (.int (nn i))] [] (zk B im lm) = zeRun 212 18 [some (.ref 0), some (.ref 16), some (.ref 170), some (.int (nn (i + 3)))] [] (zk B' im' lm') ∧ LW B' im' lm' ∧ B'.len = B.len := by
  rw [b_212_26 (nn i) (c0 := inb_nn _ _ (by omega) (by omega))]
  have key : ∀ p, LwS p → ∃ B' im' lm', zeRun 212 p [some (.ref 0), some (.ref 16), some (.ref 170), some (.int (nn i))] [] (zk B im lm) = zeRun 212 18 [some (.ref 0), some (.ref 16), some (.ref 170), some (.int (nn (i + 3)))] [] (zk B' im' lm') ∧ LW B' im' lm' ∧ B'.len = B.len := by
    intro p hp
    obtain ⟨B', im', lm', a1, a2, a3⟩ := hp B im lm i hI h hB
    refine ⟨B', im', lm', ?_, a2, a3⟩
    rw [a1, b_212_814, show nn i + 3 = nn (i + 3) from nn_addr i 3]
  rcases sw_mem (im 0 (nn i).toNatClampNeg &&& 31) 814 [(0, 152), (1, 165), (2, 214), (3, 247), (4, 280), (5, 313), (6, 352), (7, 365), (8, 388), (9, 401), (10, 434), (11, 457), (12, 490), (13, 513), (14, 538), (15, 551), (16, 564), (17, 577), (18, 600), (19, 623), (20, 656), (21, 679), (22, 702), (23, 735), (24, 768), (25, 791)] with g | ⟨y, g1, g2⟩
  · rw [g]; exact key 814 lw_814
  · rw [g2]; exact key y.2 (lw_all y g1)
theorem lw_loop : ∀ d (B : zeB) (im : zI) (lm : zJ) (i : Nat), B.len < d + i → LW B im lm → B.len ≤ 100000 → i ≤ B.len + 3 → ∃ B' im' lm', zeRun 212 18 [some (.ref 0), some (.ref 16), some (.ref 170), some (.int (nn i))] [] (zk B im lm) = some (some (.int 1), zk B' im' lm') ∧ LW B' im' lm' := by
  have stop : ∀ (B : zeB) (im : zI) (lm : zJ) (i : Nat), ¬ i + 3 ≤ B.len → B.len ≤ 100000 → i ≤ B.len + 3 → zeRun 212 18 [some (.ref 0), some (.ref 16), some (.ref 170), some (.int (nn i))] [] (zk B im lm) = some (some (.int 1), zk B im lm) := by
    intro B im lm i h hB hi
    have hlt : (Int32.ofNat B.len) - 3 < nn i := by
      show nn B.len - nn 3 < nn i
      by_cases g : 3 ≤ B.len
      · rw [nn_sub _ _ g (by omega), nn_lt _ _ (by omega) (by omega)]; omega
      · have e : nn B.len - nn 3 = ng (3 - B.len) := by
          unfold ng
          rw [← nn_sub 3 B.len (by omega) (by omega), Int32.neg_sub]
        rw [e, Int32.lt_iff_toInt_lt, ti_gn _ (by omega), ti_nn i (by omega)]; omega
    rw [b_212_18, if_pos hlt, b_212_820]
  intro d
  induction d with
  | zero => intro B im lm i h1 hI hB hi; exact ⟨B, im, lm, stop B im lm i (by omega) hB hi, hI⟩
  | succ d ih =>
    intro B im lm i h1 hI hB hi
    by_cases g : i + 3 ≤ B.len
    · obtain ⟨B', im', lm', a1, a2, a3⟩ := lw_rd hI g hB
      obtain ⟨B2, im2, lm2, b1, b2⟩ := ih B' im' lm' (i + 3) (by omega) a2 (by omega) (by omega)
      refine ⟨B2, im2, lm2, ?_, b2⟩
      have hge : ¬ (Int32.ofNat B.len) - 3 < nn i := by
        show ¬ nn B.len - nn 3 < nn i
        rw [nn_sub _ _ (by omega) (by omega), nn_lt _ _ (by omega) (by omega)]; omega
      rw [b_212_18, if_neg hge, a1]
      exact b1
    · exact ⟨B, im, lm, stop B im lm i g hB hi, hI⟩
/-- the law from its loop on -/
theorem lw_run {B : zeB} {im : zI} {lm : zJ} (o3 : Option Value) (hI : LW B im lm) (hB : B.len ≤ 100000) : ∃ B' im' lm', zeRun 212 16 [some (.ref 0), some (.ref 16), some (.ref 170), o3] [] (zk B im lm) = some (some (.int 1), zk B' im' lm') ∧ B'.1 ≤ 1000 ∧ B'.2.1 ≤ 200000 := by
  obtain ⟨B', im', lm', a1, a2⟩ := lw_loop (B.len + 1) B im lm 0 (by omega) hI hB (by omega)
  refine ⟨B', im', lm', ?_, ?_⟩
  · rw [b_212_16]; exact a1
  · exact a2.2.2
