set_option maxRecDepth 100000 in
theorem ckL0 : (List.range' 0 48).all (sm_ck1 mmL) = true := by decide +kernel
set_option maxRecDepth 100000 in
theorem ckL1 : (List.range' 48 48).all (sm_ck1 mmL) = true := by decide +kernel
set_option maxRecDepth 100000 in
theorem ckL2 : (List.range' 96 48).all (sm_ck1 mmL) = true := by decide +kernel
set_option maxRecDepth 100000 in
theorem ckL3 : (List.range' 144 48).all (sm_ck1 mmL) = true := by decide +kernel
set_option maxRecDepth 100000 in
theorem ckL4 : (List.range' 192 48).all (sm_ck1 mmL) = true := by decide +kernel
set_option maxRecDepth 100000 in
theorem ckL5 : (List.range' 240 48).all (sm_ck1 mmL) = true := by decide +kernel
set_option maxRecDepth 100000 in
theorem ckL6 : (List.range' 288 48).all (sm_ck1 mmL) = true := by decide +kernel
set_option maxRecDepth 100000 in
theorem ckL7 : (List.range' 336 48).all (sm_ck1 mmL) = true := by decide +kernel
set_option maxRecDepth 100000 in
theorem ckL8 : (List.range' 384 48).all (sm_ck1 mmL) = true := by decide +kernel
set_option maxRecDepth 100000 in
theorem ckL9 : (List.range' 432 48).all (sm_ck1 mmL) = true := by decide +kernel
set_option maxRecDepth 100000 in
theorem ckL10 : (List.range' 480 48).all (sm_ck1 mmL) = true := by decide +kernel
set_option maxRecDepth 100000 in
theorem ckL11 : (List.range' 528 48).all (sm_ck1 mmL) = true := by decide +kernel
set_option maxRecDepth 100000 in
theorem ckL12 : (List.range' 576 48).all (sm_ck1 mmL) = true := by decide +kernel
set_option maxRecDepth 100000 in
theorem ckL13 : (List.range' 624 48).all (sm_ck1 mmL) = true := by decide +kernel
set_option maxRecDepth 100000 in
theorem ckL14 : (List.range' 672 48).all (sm_ck1 mmL) = true := by decide +kernel
set_option maxRecDepth 100000 in
theorem ckL15 : (List.range' 720 48).all (sm_ck1 mmL) = true := by decide +kernel
set_option maxRecDepth 100000 in
theorem ckL16 : (List.range' 768 48).all (sm_ck1 mmL) = true := by decide +kernel
set_option maxRecDepth 100000 in
theorem ckL17 : (List.range' 816 48).all (sm_ck1 mmL) = true := by decide +kernel
set_option maxRecDepth 100000 in
theorem ckL18 : (List.range' 864 48).all (sm_ck1 mmL) = true := by decide +kernel
set_option maxRecDepth 100000 in
theorem ckL19 : (List.range' 912 48).all (sm_ck1 mmL) = true := by decide +kernel
set_option maxRecDepth 100000 in
theorem ckL20 : (List.range' 960 48).all (sm_ck1 mmL) = true := by decide +kernel
set_option maxRecDepth 100000 in
theorem ckL21 : (List.range' 1008 48).all (sm_ck1 mmL) = true := by decide +kernel
set_option maxRecDepth 100000 in
theorem ckL22 : (List.range' 1056 48).all (sm_ck1 mmL) = true := by decide +kernel
set_option maxRecDepth 100000 in
theorem ckL23 : (List.range' 1104 48).all (sm_ck1 mmL) = true := by decide +kernel
set_option maxRecDepth 100000 in
theorem ckL24 : (List.range' 1152 46).all (sm_ck1 mmL) = true := by decide +kernel
theorem ckLa {a n pc : Nat} (h : (List.range' a n).all (sm_ck1 mmL) = true) (h1 : a ≤ pc) (h2 : pc < a + n) : sm_ck1 mmL pc = true := List.all_eq_true.mp h pc (List.mem_range'_1.mpr ⟨h1, h2⟩)
theorem ckL : sm_ck mmL = true := by
  refine List.all_eq_true.mpr (fun pc hpc => ?_)
  have hpc : pc < 1198 := List.mem_range.mp hpc
  by_cases c0 : pc < 48
  · exact ckLa ckL0 (by omega) (by omega)
  by_cases c1 : pc < 96
  · exact ckLa ckL1 (by omega) (by omega)
  by_cases c2 : pc < 144
  · exact ckLa ckL2 (by omega) (by omega)
  by_cases c3 : pc < 192
  · exact ckLa ckL3 (by omega) (by omega)
  by_cases c4 : pc < 240
  · exact ckLa ckL4 (by omega) (by omega)
  by_cases c5 : pc < 288
  · exact ckLa ckL5 (by omega) (by omega)
  by_cases c6 : pc < 336
  · exact ckLa ckL6 (by omega) (by omega)
  by_cases c7 : pc < 384
  · exact ckLa ckL7 (by omega) (by omega)
  by_cases c8 : pc < 432
  · exact ckLa ckL8 (by omega) (by omega)
  by_cases c9 : pc < 480
  · exact ckLa ckL9 (by omega) (by omega)
  by_cases c10 : pc < 528
  · exact ckLa ckL10 (by omega) (by omega)
  by_cases c11 : pc < 576
  · exact ckLa ckL11 (by omega) (by omega)
  by_cases c12 : pc < 624
  · exact ckLa ckL12 (by omega) (by omega)
  by_cases c13 : pc < 672
  · exact ckLa ckL13 (by omega) (by omega)
  by_cases c14 : pc < 720
  · exact ckLa ckL14 (by omega) (by omega)
  by_cases c15 : pc < 768
  · exact ckLa ckL15 (by omega) (by omega)
  by_cases c16 : pc < 816
  · exact ckLa ckL16 (by omega) (by omega)
  by_cases c17 : pc < 864
  · exact ckLa ckL17 (by omega) (by omega)
  by_cases c18 : pc < 912
  · exact ckLa ckL18 (by omega) (by omega)
  by_cases c19 : pc < 960
  · exact ckLa ckL19 (by omega) (by omega)
  by_cases c20 : pc < 1008
  · exact ckLa ckL20 (by omega) (by omega)
  by_cases c21 : pc < 1056
  · exact ckLa ckL21 (by omega) (by omega)
  by_cases c22 : pc < 1104
  · exact ckLa ckL22 (by omega) (by omega)
  by_cases c23 : pc < 1152
  · exact ckLa ckL23 (by omega) (by omega)
  exact ckLa ckL24 (by omega) (by omega)
