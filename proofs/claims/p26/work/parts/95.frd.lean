/-! fields and arrays that the calls may change -/
theorem fr_c9 : fRet 9 1 0 [(0, 11), (3, 0), (3, 3)] [11] := fRet_of (n := 1) (cz_o70) (by decide) iv_c9 (by decide +kernel)
theorem fr_m140 : fRet 140 1 67 [(67, 3), (67, 6)] [68, 1006, 1009] := fRet_of (n := 1) (mz_o72 mz_KH_ok) (by decide) iv_m140 (by decide +kernel)
theorem fr_c12 : fRet 12 5 0 [(3, 1)] [4, 5, 6, 7, 8, 9, 10, 11] := fRet_of (n := 5) (cz_o67) (by decide) iv_c12 (by decide +kernel)
theorem fr_m143 : fRet 143 5 67 [] [68, 1000, 1001, 1002, 1003, 1004, 1005, 1006, 1007] := fRet_of (n := 5) (mz_o61 mz_KH_ok) (by decide) iv_m143 (by decide +kernel)
theorem fr_c15 : fRet 15 2 0 [(63, 2), (63, 3)] [] := fRet_of (n := 2) (cz_o37) (by decide) iv_c15 (by decide +kernel)
theorem fr_m147 : fRet 147 2 67 [(67, 4), (67, 5)] [] := fRet_of (n := 2) (mz_o44 mz_KH_ok) (by decide) iv_m147 (by decide +kernel)
theorem fr_c16 : fRet 16 1 0 [(3, 2)] [] := fRet_of (n := 1) (cz_o36) (by decide) iv_c16 (by decide +kernel)
theorem fr_m148 : fRet 148 1 67 [] [68, 1008] := fRet_of (n := 1) (mz_o40 mz_KH_ok) (by decide) iv_m148 (by decide +kernel)
theorem fr_c17 : fRet 17 5 0 [(1, 1)] [2] := fRet_of (n := 5) (cz_o66) (by decide) iv_c17 (by decide +kernel)
theorem fr_m149 : fRet 149 5 67 [(67, 8)] [71] := fRet_of (n := 5) (mz_o14 mz_KH_ok) (by decide) iv_m149 (by decide +kernel)
theorem fr_c19 : fRet 19 1 0 [(1, 1), (1, 2), (1, 3), (1, 4), (43, 0), (43, 1), (53, 0), (53, 1)] [44, 45, 46, 47, 48, 49, 54, 55, 56, 57, 58, 59] := fRet_of (n := 1) (cz_o169) (by decide) iv_c19 (by decide +kernel)
theorem fr_c42 : fRet 42 2 0 [(1, 1), (1, 2), (1, 3), (1, 4)] [11] := fRet_of (n := 2) (cz_o72) (by decide) iv_c42 (by decide +kernel)
theorem fr_m172 : fRet 172 2 67 [(67, 8), (67, 9), (67, 10), (67, 11)] [68, 85, 1006] := fRet_of (n := 2) (mz_o45 mz_KH_ok) (by decide) iv_m172 (by decide +kernel)
theorem fr_c47 : fRet 47 1 0 [(3, 2), (3, 3), (3, 4), (3, 5), (3, 6), (43, 10)] [8, 9, 10, 50, 51, 64] := fRet_of (n := 1) (cz_o129) (by decide) iv_c47 (by decide +kernel)
theorem fr_m175 : fRet 175 1 67 [(67, 32), (67, 33)] [68, 83, 84, 86, 1003, 1004, 1005, 1008, 1009, 1010, 1011, 1012] := fRet_of (n := 1) (mz_o111 mz_KH_ok) (by decide) iv_m175 (by decide +kernel)
theorem fr_c68 : fRet 68 2 0 [(21, 0), (21, 1), (21, 2), (21, 3), (21, 4), (21, 5), (21, 6), (43, 10)] [22, 23, 24, 25, 26, 27, 28, 29, 50, 51, 64] := fRet_of (n := 2) (cz_o130) (by decide) iv_c68 (by decide +kernel)
theorem fr_m198 : fRet 198 2 67 [(67, 32), (67, 33)] [68, 69, 83, 84, 86, 1000, 1001, 1002, 1003, 1004, 1005, 1006, 1007, 1008, 1009, 1010, 1011, 1012, 1020, 1021, 1022, 1023, 1024, 1025, 1026, 1027, 1028, 1029, 1030, 1031, 1032] := fRet_of (n := 2) (mz_o112 mz_KH_ok) (by decide) iv_m198 (by decide +kernel)
theorem fr_c71 : fRet 71 2 0 [(43, 10)] [50, 51] := fRet_of (n := 2) (cz_o118) (by decide) iv_c71 (by decide +kernel)
theorem fr_m200 : fRet 200 2 67 [] [83, 84] := fun xs hp hl hW hI => by
  match xs, hl with
  | [x, y], _ =>
    have t1 := an_top x
    have t2 := an_top y
    have hx : y.toInt = -2147483648 ∨ y.toInt = -2147483647 ∨ y.toInt = -2147483646 ∨ y.toInt = -2147483645 ∨ y.toInt = -2147483644 ∨ y.toInt = -2147483643 ∨ y.toInt = -2147483642 ∨ y.toInt = -2147483641 ∨ y.toInt = -2147483640 ∨ y.toInt = -2147483639 ∨ (-2147483638) ≤ y.toInt := by have := t2.1; omega
    rcases hx with e | e | e | e | e | e | e | e | e | e | e
    · obtain ⟨r, hp', m1, m2, m3, m4, m5⟩ := iv_ok (xs := [x, y]) (mz_o17 mz_KH_ok) iv_m200_0 hW hI ⟨t1, ⟨by show (_ : Int) ≤ _; omega, by show _ ≤ (_ : Int); have := t2.2; omega⟩, trivial⟩
      exact ⟨r, hp', em_up m1 (by decide), frc_ok (C := mz_c17) (by decide +kernel) hI m5⟩
    · obtain ⟨r, hp', m1, m2, m3, m4, m5⟩ := iv_ok (xs := [x, y]) (mz_o18 mz_KH_ok) iv_m200_1 hW hI ⟨t1, ⟨by show (_ : Int) ≤ _; omega, by show _ ≤ (_ : Int); have := t2.2; omega⟩, trivial⟩
      exact ⟨r, hp', em_up m1 (by decide), frc_ok (C := mz_c18) (by decide +kernel) hI m5⟩
    · obtain ⟨r, hp', m1, m2, m3, m4, m5⟩ := iv_ok (xs := [x, y]) (mz_o19 mz_KH_ok) iv_m200_2 hW hI ⟨t1, ⟨by show (_ : Int) ≤ _; omega, by show _ ≤ (_ : Int); have := t2.2; omega⟩, trivial⟩
      exact ⟨r, hp', em_up m1 (by decide), frc_ok (C := mz_c19) (by decide +kernel) hI m5⟩
    · obtain ⟨r, hp', m1, m2, m3, m4, m5⟩ := iv_ok (xs := [x, y]) (mz_o20 mz_KH_ok) iv_m200_3 hW hI ⟨t1, ⟨by show (_ : Int) ≤ _; omega, by show _ ≤ (_ : Int); have := t2.2; omega⟩, trivial⟩
      exact ⟨r, hp', em_up m1 (by decide), frc_ok (C := mz_c20) (by decide +kernel) hI m5⟩
    · obtain ⟨r, hp', m1, m2, m3, m4, m5⟩ := iv_ok (xs := [x, y]) (mz_o21 mz_KH_ok) iv_m200_4 hW hI ⟨t1, ⟨by show (_ : Int) ≤ _; omega, by show _ ≤ (_ : Int); have := t2.2; omega⟩, trivial⟩
      exact ⟨r, hp', em_up m1 (by decide), frc_ok (C := mz_c21) (by decide +kernel) hI m5⟩
    · obtain ⟨r, hp', m1, m2, m3, m4, m5⟩ := iv_ok (xs := [x, y]) (mz_o22 mz_KH_ok) iv_m200_5 hW hI ⟨t1, ⟨by show (_ : Int) ≤ _; omega, by show _ ≤ (_ : Int); have := t2.2; omega⟩, trivial⟩
      exact ⟨r, hp', em_up m1 (by decide), frc_ok (C := mz_c22) (by decide +kernel) hI m5⟩
    · obtain ⟨r, hp', m1, m2, m3, m4, m5⟩ := iv_ok (xs := [x, y]) (mz_o23 mz_KH_ok) iv_m200_6 hW hI ⟨t1, ⟨by show (_ : Int) ≤ _; omega, by show _ ≤ (_ : Int); have := t2.2; omega⟩, trivial⟩
      exact ⟨r, hp', em_up m1 (by decide), frc_ok (C := mz_c23) (by decide +kernel) hI m5⟩
    · obtain ⟨r, hp', m1, m2, m3, m4, m5⟩ := iv_ok (xs := [x, y]) (mz_o24 mz_KH_ok) iv_m200_7 hW hI ⟨t1, ⟨by show (_ : Int) ≤ _; omega, by show _ ≤ (_ : Int); have := t2.2; omega⟩, trivial⟩
      exact ⟨r, hp', em_up m1 (by decide), frc_ok (C := mz_c24) (by decide +kernel) hI m5⟩
    · obtain ⟨r, hp', m1, m2, m3, m4, m5⟩ := iv_ok (xs := [x, y]) (mz_o25 mz_KH_ok) iv_m200_8 hW hI ⟨t1, ⟨by show (_ : Int) ≤ _; omega, by show _ ≤ (_ : Int); have := t2.2; omega⟩, trivial⟩
      exact ⟨r, hp', em_up m1 (by decide), frc_ok (C := mz_c25) (by decide +kernel) hI m5⟩
    · obtain ⟨r, hp', m1, m2, m3, m4, m5⟩ := iv_ok (xs := [x, y]) (mz_o26 mz_KH_ok) iv_m200_9 hW hI ⟨t1, ⟨by show (_ : Int) ≤ _; omega, by show _ ≤ (_ : Int); have := t2.2; omega⟩, trivial⟩
      exact ⟨r, hp', em_up m1 (by decide), frc_ok (C := mz_c26) (by decide +kernel) hI m5⟩
    · obtain ⟨r, hp', m1, m2, m3, m4, m5⟩ := iv_ok (xs := [x, y]) (mz_o101 mz_KH_ok) iv_m200_10 hW hI ⟨t1, ⟨by show (_ : Int) ≤ _; omega, by show _ ≤ (_ : Int); have := t2.2; omega⟩, trivial⟩
      exact ⟨r, hp', em_up m1 (by decide), frc_ok (C := mz_c101) (by decide +kernel) hI m5⟩
  | [], h => cases h
  | [_], h => cases h
  | _ :: _ :: _ :: _, h => cases h
theorem fr_c73 : fRet 73 2 0 [(43, 10)] [50, 51] := fRet_of (n := 2) (cz_o110) (by decide) iv_c73 (by decide +kernel)
theorem fr_m201 : fRet 201 2 67 [] [83, 84] := fRet_of (n := 2) (mz_o93 mz_KH_ok) (by decide) iv_m201 (by decide +kernel)
theorem fr_c74 : fRet 74 2 0 [] [] := fRet_of (n := 2) (cz_o71) (by decide) iv_c74 (by decide +kernel)
theorem fr_m202 : fRet 202 2 67 [] [] := fRet_of (n := 2) (mz_o73 mz_KH_ok) (by decide) iv_m202 (by decide +kernel)
theorem fr_c76 : fRet 76 1 0 [] [31, 35] := fRet_of (n := 1) (cz_o99) (by decide) iv_c76 (by decide +kernel)
theorem fr_m204 : fRet 204 1 67 [] [87] := fun xs hp hl hW hI => by
  obtain ⟨x, -, x1, x2⟩ := iv_many hI
  have hx : x.toInt = 2 ∨ x.toInt = 3 ∨ x.toInt = 4 ∨ x.toInt = 5 ∨ x.toInt = 6 := by omega
  have hb := iv_bs_tp xs 1 hl
  rcases hx with e | e | e | e | e
  · obtain ⟨r, hp', m1, m2, m3, m4, m5⟩ := iv_ok (mz_o56 mz_KH_ok) iv_m204_0 hW (x2 2 2 (by omega)) hb
    exact ⟨r, hp', em_up m1 (by decide), frc_ok (C := mz_c56) (by decide +kernel) hI m5⟩
  · obtain ⟨r, hp', m1, m2, m3, m4, m5⟩ := iv_ok (mz_o57 mz_KH_ok) iv_m204_1 hW (x2 3 3 (by omega)) hb
    exact ⟨r, hp', em_up m1 (by decide), frc_ok (C := mz_c57) (by decide +kernel) hI m5⟩
  · obtain ⟨r, hp', m1, m2, m3, m4, m5⟩ := iv_ok (mz_o58 mz_KH_ok) iv_m204_2 hW (x2 4 4 (by omega)) hb
    exact ⟨r, hp', em_up m1 (by decide), frc_ok (C := mz_c58) (by decide +kernel) hI m5⟩
  · obtain ⟨r, hp', m1, m2, m3, m4, m5⟩ := iv_ok (mz_o59 mz_KH_ok) iv_m204_3 hW (x2 5 5 (by omega)) hb
    exact ⟨r, hp', em_up m1 (by decide), frc_ok (C := mz_c59) (by decide +kernel) hI m5⟩
  · obtain ⟨r, hp', m1, m2, m3, m4, m5⟩ := iv_ok (mz_o60 mz_KH_ok) iv_m204_4 hW (x2 6 6 (by omega)) hb
    exact ⟨r, hp', em_up m1 (by decide), frc_ok (C := mz_c60) (by decide +kernel) hI m5⟩
theorem fr_c80 : fRet 80 1 0 [] [31] := fRet_of (n := 1) (cz_o87) (by decide) iv_c80 (by decide +kernel)
theorem fr_m208 : fRet 208 1 67 [] [88] := fRet_of (n := 1) (mz_o76 mz_KH_ok) (by decide) iv_m208 (by decide +kernel)
theorem fr_c82 : fRet 82 1 0 [] [35, 36] := fRet_of (n := 1) (cz_o101) (by decide) iv_c82 (by decide +kernel)
theorem fr_m209 : fRet 209 1 67 [] [87, 89] := fun xs hp hl hW hI => by
  obtain ⟨x, -, x1, x2⟩ := iv_many hI
  have hx : x.toInt = 2 ∨ x.toInt = 3 ∨ x.toInt = 4 ∨ x.toInt = 5 ∨ x.toInt = 6 := by omega
  have hb := iv_bs_tp xs 1 hl
  rcases hx with e | e | e | e | e
  · obtain ⟨r, hp', m1, m2, m3, m4, m5⟩ := iv_ok (mz_o47 mz_KH_ok) iv_m209_0 hW (x2 2 2 (by omega)) hb
    exact ⟨r, hp', em_up m1 (by decide), frc_ok (C := mz_c47) (by decide +kernel) hI m5⟩
  · obtain ⟨r, hp', m1, m2, m3, m4, m5⟩ := iv_ok (mz_o48 mz_KH_ok) iv_m209_1 hW (x2 3 3 (by omega)) hb
    exact ⟨r, hp', em_up m1 (by decide), frc_ok (C := mz_c48) (by decide +kernel) hI m5⟩
  · obtain ⟨r, hp', m1, m2, m3, m4, m5⟩ := iv_ok (mz_o49 mz_KH_ok) iv_m209_2 hW (x2 4 4 (by omega)) hb
    exact ⟨r, hp', em_up m1 (by decide), frc_ok (C := mz_c49) (by decide +kernel) hI m5⟩
  · obtain ⟨r, hp', m1, m2, m3, m4, m5⟩ := iv_ok (mz_o50 mz_KH_ok) iv_m209_3 hW (x2 5 5 (by omega)) hb
    exact ⟨r, hp', em_up m1 (by decide), frc_ok (C := mz_c50) (by decide +kernel) hI m5⟩
  · obtain ⟨r, hp', m1, m2, m3, m4, m5⟩ := iv_ok (mz_o51 mz_KH_ok) iv_m209_4 hW (x2 6 6 (by omega)) hb
    exact ⟨r, hp', em_up m1 (by decide), frc_ok (C := mz_c51) (by decide +kernel) hI m5⟩
theorem fr_c85 : fRet 85 0 0 [] [32, 33] := fRet_of (n := 0) (cz_o83) (by decide) iv_c85 (by decide +kernel)
theorem fr_m211 : fRet 211 0 67 [] [] := fRet_of (n := 0) (mz_o99 mz_KH_ok) (by decide) iv_m211 (by decide +kernel)
theorem fr_c87 : fRet 87 0 0 [] [32, 33] := fRet_of (n := 0) (cz_o88) (by decide) iv_c87 (by decide +kernel)
theorem fr_m214 : fRet 214 0 67 [] [] := fRet_of (n := 0) (mz_o107 mz_KH_ok) (by decide) iv_m214 (by decide +kernel)
theorem fr_c90 : fRet 90 2 0 [] [32, 33, 34] := fRet_of (n := 2) (cz_o89) (by decide) iv_c90 (by decide +kernel)
theorem fr_m217 : fRet 217 2 67 [] [90] := fRet_of (n := 2) (mz_o106 mz_KH_ok) (by decide) iv_m217 (by decide +kernel)
theorem fr_c93 : fRet 93 0 0 [] [32, 33, 34] := fRet_of (n := 0) (cz_o86) (by decide) iv_c93 (by decide +kernel)
theorem fr_m220 : fRet 220 0 67 [] [90] := fRet_of (n := 0) (mz_o103 mz_KH_ok) (by decide) iv_m220 (by decide +kernel)
theorem fr_c95 : fRet 95 1 0 [(1, 1), (1, 2), (1, 3), (1, 4)] [32, 33] := fRet_of (n := 1) (cz_o139) (by decide) iv_c95 (by decide +kernel)
theorem fr_c99 : fRet 99 2 0 [] [32, 33, 37, 39] := fRet_of (n := 2) (cz_o84) (by decide) iv_c99 (by decide +kernel)
theorem fr_c103 : fRet 103 2 0 [] [40] := fRet_of (n := 2) (cz_o100) (by decide) iv_c103 (by decide +kernel)
theorem fr_m228 : fRet 228 2 67 [] [] := fRet_of (n := 2) (mz_o104 mz_KH_ok) (by decide) iv_m228 (by decide +kernel)
theorem fr_c111 : fRet 111 2 0 [] [31, 35, 41, 42] := fRet_of (n := 2) (cz_o112) (by decide) iv_c111 (by decide +kernel)
theorem fr_m232 : fRet 232 2 67 [] [87] := fun xs hp hl hW hI => by
  obtain ⟨x, -, x1, x2⟩ := iv_many hI
  have hx : x.toInt = 2 ∨ x.toInt = 3 ∨ x.toInt = 4 ∨ x.toInt = 5 ∨ x.toInt = 6 := by omega
  have hb := iv_bs_tp xs 2 hl
  rcases hx with e | e | e | e | e
  · obtain ⟨r, hp', m1, m2, m3, m4, m5⟩ := iv_ok (mz_o94 mz_KH_ok) iv_m232_0 hW (x2 2 2 (by omega)) hb
    exact ⟨r, hp', em_up m1 (by decide), frc_ok (C := mz_c94) (by decide +kernel) hI m5⟩
  · obtain ⟨r, hp', m1, m2, m3, m4, m5⟩ := iv_ok (mz_o95 mz_KH_ok) iv_m232_1 hW (x2 3 3 (by omega)) hb
    exact ⟨r, hp', em_up m1 (by decide), frc_ok (C := mz_c95) (by decide +kernel) hI m5⟩
  · obtain ⟨r, hp', m1, m2, m3, m4, m5⟩ := iv_ok (mz_o96 mz_KH_ok) iv_m232_2 hW (x2 4 4 (by omega)) hb
    exact ⟨r, hp', em_up m1 (by decide), frc_ok (C := mz_c96) (by decide +kernel) hI m5⟩
  · obtain ⟨r, hp', m1, m2, m3, m4, m5⟩ := iv_ok (mz_o97 mz_KH_ok) iv_m232_3 hW (x2 5 5 (by omega)) hb
    exact ⟨r, hp', em_up m1 (by decide), frc_ok (C := mz_c97) (by decide +kernel) hI m5⟩
  · obtain ⟨r, hp', m1, m2, m3, m4, m5⟩ := iv_ok (mz_o98 mz_KH_ok) iv_m232_4 hW (x2 6 6 (by omega)) hb
    exact ⟨r, hp', em_up m1 (by decide), frc_ok (C := mz_c98) (by decide +kernel) hI m5⟩
theorem fr_c114 : fRet 114 2 0 [] [35, 36, 38, 39] := fRet_of (n := 2) (cz_o109) (by decide) iv_c114 (by decide +kernel)
theorem fr_c120 : fRet 120 2 0 [] [31, 35] := fRet_of (n := 2) (cz_o111) (by decide) iv_c120 (by decide +kernel)
theorem fr_m235 : fRet 235 2 67 [] [87, 95, 96] := fun xs hp hl hW hI => by
  obtain ⟨x, -, x1, x2⟩ := iv_many hI
  have hx : x.toInt = 2 ∨ x.toInt = 3 ∨ x.toInt = 4 ∨ x.toInt = 5 ∨ x.toInt = 6 := by omega
  have hb := iv_bs_tp xs 2 hl
  rcases hx with e | e | e | e | e
  · obtain ⟨r, hp', m1, m2, m3, m4, m5⟩ := iv_ok (mz_o79 mz_KH_ok) iv_m235_0 hW (x2 2 2 (by omega)) hb
    exact ⟨r, hp', em_up m1 (by decide), frc_ok (C := mz_c79) (by decide +kernel) hI m5⟩
  · obtain ⟨r, hp', m1, m2, m3, m4, m5⟩ := iv_ok (mz_o80 mz_KH_ok) iv_m235_1 hW (x2 3 3 (by omega)) hb
    exact ⟨r, hp', em_up m1 (by decide), frc_ok (C := mz_c80) (by decide +kernel) hI m5⟩
  · obtain ⟨r, hp', m1, m2, m3, m4, m5⟩ := iv_ok (mz_o81 mz_KH_ok) iv_m235_2 hW (x2 4 4 (by omega)) hb
    exact ⟨r, hp', em_up m1 (by decide), frc_ok (C := mz_c81) (by decide +kernel) hI m5⟩
  · obtain ⟨r, hp', m1, m2, m3, m4, m5⟩ := iv_ok (mz_o82 mz_KH_ok) iv_m235_3 hW (x2 5 5 (by omega)) hb
    exact ⟨r, hp', em_up m1 (by decide), frc_ok (C := mz_c82) (by decide +kernel) hI m5⟩
  · obtain ⟨r, hp', m1, m2, m3, m4, m5⟩ := iv_ok (mz_o83 mz_KH_ok) iv_m235_4 hW (x2 6 6 (by omega)) hb
    exact ⟨r, hp', em_up m1 (by decide), frc_ok (C := mz_c83) (by decide +kernel) hI m5⟩
theorem fr_c122 : fRet 122 1 0 [(43, 10)] [50, 51] := fRet_of (n := 1) (cz_o108) (by decide) iv_c122 (by decide +kernel)
theorem fr_m236 : fRet 236 1 67 [] [83, 84] := fRet_of (n := 1) (mz_o90 mz_KH_ok) (by decide) iv_m236 (by decide +kernel)
theorem fr_c124 : fRet 124 1 0 [(43, 10)] [50, 51] := fRet_of (n := 1) (cz_o119) (by decide) iv_c124 (by decide +kernel)
theorem fr_m237 : fRet 237 1 67 [] [68, 83, 84, 1000] := fRet_of (n := 1) (mz_o105 mz_KH_ok) (by decide) iv_m237 (by decide +kernel)
theorem fr_c126 : fRet 126 2 0 [(21, 0), (21, 1), (21, 2), (21, 3), (21, 4), (21, 5), (21, 6), (43, 10)] [22, 23, 24, 25, 26, 27, 28, 29, 50, 51, 64, 65, 66] := fRet_of (n := 2) (cz_o128) (by decide) iv_c126 (by decide +kernel)
theorem fr_m238 : fRet 238 2 67 [(67, 32), (67, 33)] [68, 69, 83, 84, 86, 97, 98, 1000, 1001, 1002, 1003, 1004, 1005, 1006, 1007, 1008, 1009, 1010, 1011, 1012, 1020, 1021, 1022, 1023, 1024, 1025, 1026, 1027, 1028, 1029, 1030, 1031, 1032] := fRet_of (n := 2) (mz_o109 mz_KH_ok) (by decide) iv_m238 (by decide +kernel)
theorem fr_c127 : fRet 127 2 0 [] [] := fRet_of (n := 2) (cz_o69) (by decide) iv_c127 (by decide +kernel)
theorem fr_m239 : fRet 239 2 67 [] [] := fRet_of (n := 2) (mz_o69 mz_KH_ok) (by decide) iv_m239 (by decide +kernel)
theorem fr_c128 : fRet 128 1 0 [] [] := fRet_of (n := 1) (cz_o85) (by decide) iv_c128 (by decide +kernel)
theorem fr_m240 : fRet 240 1 67 [] [] := fRet_of (n := 1) (mz_o74 mz_KH_ok) (by decide) iv_m240 (by decide +kernel)
theorem fr_c131 : fRet 131 1 0 [] [] := fRet_of (n := 1) (cz_o82) (by decide) iv_c131 (by decide +kernel)
theorem fr_m243 : fRet 243 1 67 [] [] := fRet_of (n := 1) (mz_o85 mz_KH_ok) (by decide) iv_m243 (by decide +kernel)
theorem fr_c134 : fRet 134 1 0 [(3, 6)] [] := fRet_of (n := 1) (cz_o39) (by decide) iv_c134 (by decide +kernel)
theorem fr_m246 : fRet 246 1 67 [] [68, 1012] := fRet_of (n := 1) (mz_o52 mz_KH_ok) (by decide) iv_m246 (by decide +kernel)
theorem fr_c135 : fRet 135 0 0 [(0, 11), (12, 0), (12, 1), (12, 2), (12, 3), (12, 4), (12, 5), (12, 6)] [13, 14, 15, 16, 17, 18, 19, 20] := fRet_of (n := 0) (cz_o68) (by decide) iv_c135 (by decide +kernel)
theorem fr_m247 : fRet 247 0 67 [(67, 6)] [70, 1040, 1041, 1042, 1043, 1044, 1045, 1046, 1047, 1048, 1049, 1050, 1051, 1052] := fRet_of (n := 0) (mz_o68 mz_KH_ok) (by decide) iv_m247 (by decide +kernel)
theorem fr_c136 : fRet 136 0 0 [(3, 0), (3, 1), (3, 2), (3, 3), (3, 4), (3, 5), (3, 6)] [4, 5, 6, 7, 8, 9, 10, 11] := fRet_of (n := 0) (cz_o73) (by decide) iv_c136 (by decide +kernel)
theorem fr_m248 : fRet 248 0 67 [] [68, 1000, 1001, 1002, 1003, 1004, 1005, 1006, 1007, 1008, 1009, 1010, 1011, 1012] := fRet_of (n := 0) (mz_o84 mz_KH_ok) (by decide) iv_m248 (by decide +kernel)
theorem fr_c137 : fRet 137 1 0 [(1, 1)] [] := fRet_of (n := 1) (cz_o33) (by decide) iv_c137 (by decide +kernel)
theorem fr_m249 : fRet 249 1 67 [(67, 8)] [] := fRet_of (n := 1) (mz_o8 mz_KH_ok) (by decide) iv_m249 (by decide +kernel)
theorem fr_c138 : fRet 138 1 0 [] [] := fRet_of (n := 1) (cz_o65) (by decide) iv_c138 (by decide +kernel)
theorem fr_m250 : fRet 250 1 67 [] [] := fRet_of (n := 1) (mz_o55 mz_KH_ok) (by decide) iv_m250 (by decide +kernel)
