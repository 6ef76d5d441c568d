/-! answers that follow from the relation -/
section ANS
variable {as : List Int32} {hp hp1 hp2 : sm_H} {r1 r2 : Int32}
theorem an_mother (hl : as.length = 1) (hI : ivH IV hp) (hR : R1 hp) (m1 : EM 400 16 (.ref 0 :: as.map Value.int) hp (some (.int r1)) hp1) (hI1 : ivH IV hp1) (m2 : EM 400 148 (.ref 67 :: as.map Value.int) hp1 (some (.int r2)) hp2) : r1 = r2 := by
  obtain ⟨x, rfl⟩ := ln1 hl
  obtain ⟨e1, h1⟩ := u_kc_mother hI m1
  obtain ⟨e2, -⟩ := u_km_mother hI1 m2
  have w : exA hp1 68 = exA hp 68 := by rw [h1]; rfl
  rw [e1, e2, w]
  unfold kc_mother km_mother
  rw [told_same hR.1.2.1]
  split <;> rfl
end ANS
