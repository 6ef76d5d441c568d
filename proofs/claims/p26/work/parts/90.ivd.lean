/-! bounds between two calls, as found -/
noncomputable def iv_l : List iv_C := [.inr (7, [.inl 1, .inl 3, .inl 12, .inl 21, .inl 30, .inl 43, .inl 52, .inl 62, .inl 63, .inl 65, .inl 66, .inr (0, 1)]), .inr (5, [.inl 2, .inr (0, 260), .inr (0, 240), .inr (0, 240), .inr ((-10000), 0)]), .inl (0, [(260, 0, 255)]), .inr (4, [.inr (2, 6), .inr (0, 4095), .inr ((-1), 11), .inr ((-2147483648), 2147483647), .inr (0, 9999), .inr ((-2147483648), 2147483647), .inr (0, 65535), .inl 4, .inl 5, .inl 6, .inl 7, .inl 8, .inl 9, .inl 10, .inl 11]), .inl (0, [(12, (-1), 11)]), .inl (0, [(12, 0, 11)]), .inl (0, [(12, 0, 20)]), .inl (0, [(12, 0, 99)]), .inl (0, [(12, 0, 9)]), .inl (0, [(12, (-2147483648), 2147483647)]), .inl (0, [(12, (-2147483648), 2147483647)]), .inl (1, [(12, 0, 0)]), .inr (4, [.inr (2, 6), .inr (0, 4095), .inr ((-1), 11), .inr ((-2147483648), 2147483647), .inr (0, 9999), .inr ((-2147483648), 2147483647), .inr (0, 65535), .inl 13, .inl 14, .inl 15, .inl 16, .inl 17, .inl 18, .inl 19, .inl 20]), .inl (0, [(12, (-1), 11)]), .inl (0, [(12, 0, 11)]), .inl (0, [(12, 0, 20)]), .inl (0, [(12, 0, 99)]), .inl (0, [(12, 0, 9)]), .inl (0, [(12, (-2147483648), 2147483647)]), .inl (0, [(12, (-2147483648), 2147483647)]), .inl (1, [(12, 0, 0)]), .inr (4, [.inr (2, 6), .inr (0, 4095), .inr ((-1), 11), .inr ((-2147483648), 2147483647), .inr (0, 9999), .inr ((-2147483648), 2147483647), .inr (0, 65535), .inl 22, .inl 23, .inl 24, .inl 25, .inl 26, .inl 27, .inl 28, .inl 29]), .inl (0, [(12, (-1), 11)]), .inl (0, [(12, 0, 11)]), .inl (0, [(12, 0, 20)]), .inl (0, [(12, 0, 99)]), .inl (0, [(12, 0, 9)]), .inl (0, [(12, (-2147483648), 2147483647)]), .inl (0, [(12, (-2147483648), 2147483647)]), .inl (1, [(12, 0, 0)]), .inr (6, [.inl 3, .inl 31, .inl 32, .inl 33, .inl 34, .inl 35, .inl 36, .inl 37, .inl 38, .inl 39, .inl 40, .inl 41, .inl 42]), .inl (0, [(6, (-2147483648), 2147483647)]), .inl (0, [(36, (-2147483648), 2147483647)]), .inl (0, [(6, 0, 63)]), .inl (0, [(36, (-2147483648), 2147483647)]), .inl (0, [(384, (-2147483648), 2147483647)]), .inl (0, [(6, 0, 5)]), .inl (0, [(384, (-2147483648), 2147483647)]), .inl (0, [(6, 0, 5)]), .inl (0, [(6, 0, 5)]), .inl (0, [(241, (-2147483648), 2147483647)]), .inl (0, [(12, (-1), 5)]), .inl (0, [(6, (-2147483648), 2147483647)]), .inr (1, [.inr (0, 16), .inr (0, 240), .inl 44, .inl 45, .inl 46, .inl 47, .inl 48, .inl 49, .inl 50, .inl 51, .inr (0, 1)]), .inl (0, [(16, 0, 120)]), .inl (0, [(16, 0, 240)]), .inl (0, [(16, 0, 240)]), .inl (0, [(16, 0, 240)]), .inl (0, [(240, 0, 124)]), .inl (0, [(240, 0, 99999)]), .inl (0, [(8, (-2147483648), 2147483647)]), .inl (0, [(40, (-2147483648), 2147483647)]), .inr (2, [.inl 1, .inl 53, .inr (0, 0)]), .inr (1, [.inr (0, 16), .inr (0, 240), .inl 54, .inl 55, .inl 56, .inl 57, .inl 58, .inl 59, .inl 60, .inl 61, .inr (0, 0)]), .inl (0, [(16, 0, 120)]), .inl (0, [(16, 0, 240)]), .inl (0, [(16, 0, 240)]), .inl (0, [(16, 0, 240)]), .inl (0, [(240, 0, 124)]), .inl (0, [(240, 0, 99999)]), .inl (0, [(8, 0, 0)]), .inl (0, [(40, 0, 0)]), .inr (0, [.inl 1, .inl 30]), .inr (3, [.inl 43, .inl 64, .inr (0, 99), .inr (0, 12)]), .inl (0, [(12, (-2147483648), 2147483647)]), .inl (0, [(12, (-2147483648), 2147483647)]), .inl (0, [(12, (-2147483648), 2147483647)])]
noncomputable def iv_r : List iv_C := [.inl (0, [(12, 0, 11), (12, 0, 20), (12, 0, 99), (12, 0, 9), (12, (-2147483648), 2147483647), (12, (-2147483648), 2147483647), (72, 0, 5), (1, 0, 4095), (1, (-2), 11), (1, (-2147483648), 2147483647), (1, (-2147483648), 2147483647), (1, (-2147483648), 2147483647), (1, 0, 65535)]), .inl (0, [(12, 0, 11), (12, 0, 20), (12, 0, 99), (12, 0, 9), (12, (-2147483648), 2147483647), (12, (-2147483648), 2147483647), (72, 0, 5), (1, 0, 4095), (1, (-2), 11), (1, (-2147483648), 2147483647), (1, (-2147483648), 2147483647), (1, (-2147483648), 2147483647), (1, 0, 65535)]), .inl (0, [(12, 0, 11), (12, 0, 20), (12, 0, 99), (12, 0, 9), (12, (-2147483648), 2147483647), (12, (-2147483648), 2147483647), (72, 0, 5), (1, 0, 4095), (1, (-2), 11), (1, (-2147483648), 2147483647), (1, (-2147483648), 2147483647), (1, (-2147483648), 2147483647), (1, 0, 65535)]), .inl (2, [(260, (-128), 127)]), .inl (0, [(260, (-2147483648), 2147483647)]), .inl (0, [(260, (-2147483648), 2147483647)]), .inl (0, [(16, (-2147483648), 2147483647)]), .inl (0, [(16, (-2147483648), 2147483647)]), .inl (0, [(16, (-2147483648), 2147483647)]), .inl (0, [(16, (-2147483648), 2147483647)]), .inl (0, [(260, (-2147483648), 2147483647)]), .inl (0, [(16, (-2147483648), 2147483647)]), .inl (0, [(16, (-2147483648), 2147483647)]), .inl (0, [(16, (-2147483648), 2147483647)]), .inl (0, [(16, (-2147483648), 2147483647)]), .inl (0, [(260, (-2147483648), 2147483647)]), .inl (0, [(8, (-2147483648), 2147483647)]), .inl (0, [(6, 0, 5)]), .inl (0, [(12, (-2147483648), 2147483647)]), .inl (0, [(6, (-2147483648), 2147483647)]), .inl (0, [(6, (-2147483648), 2147483647)]), .inl (0, [(6, (-2147483648), 2147483647)]), .inl (0, [(36, (-2147483648), 2147483647)]), .inl (0, [(9, (-2147483648), 2147483647)]), .inl (0, [(6, (-2147483648), 2147483647)]), .inl (0, [(6, (-2147483648), 2147483647)]), .inl (0, [(6, (-2147483648), 2147483647)]), .inl (0, [(12, 0, 11)]), .inl (0, [(6, (-2147483648), 2147483647)]), .inl (0, [(12, (-2147483648), 2147483647)]), .inl (0, [(12, (-2147483648), 2147483647)])]
noncomputable def iv_f : List (Nat ⊕ (Int × Int)) := [.inl 68, .inl 69, .inl 70]
noncomputable def iv_g : List (Nat ⊕ (Int × Int)) := [.inr (0, 99), .inr (0, 12), .inr (0, 1), .inl 71, .inr (0, 260), .inr (0, 240), .inr (0, 240), .inr ((-2147483648), 2147483647), .inr ((-2147483648), 2147483647), .inr ((-2147483648), 2147483647), .inr ((-2147483648), 2147483647), .inr ((-2147483648), 2147483647), .inr ((-2147483648), 2147483647), .inr (0, 16), .inl 72, .inl 73, .inl 74, .inl 75, .inl 76, .inl 77, .inl 78, .inl 79, .inl 80, .inl 81, .inl 82, .inl 83, .inl 84, .inl 85, .inr ((-2147483648), 2147483647), .inr ((-2147483648), 2147483647), .inl 86, .inl 87, .inl 88, .inl 89, .inl 90, .inl 91, .inl 92, .inl 93, .inl 94, .inl 95, .inl 96, .inl 97, .inl 98]
noncomputable def IV0 (a b : Int) : List iv_C := iv_l ++ .inr (8, iv_f ++ .inr (a, b) :: iv_g) :: iv_r
noncomputable def IV : List iv_C := IV0 2 6
set_option maxRecDepth 100000 in
theorem iv_c9 : iv_ck 67 cz_c70 (IV) 0 [((-2147483648), 2147483647)] IV = true := by decide +kernel
set_option maxRecDepth 100000 in
theorem iv_m140 : iv_ck 1000 mz_c72 (IV) 67 [((-2147483648), 2147483647)] IV = true := by decide +kernel
set_option maxRecDepth 100000 in
theorem iv_c12 : iv_ck 67 cz_c67 (IV) 0 [((-2147483648), 2147483647), ((-2147483648), 2147483647), ((-2147483648), 2147483647), ((-2147483648), 2147483647), ((-2147483648), 2147483647)] IV = true := by decide +kernel
set_option maxRecDepth 100000 in
theorem iv_m143 : iv_ck 1000 mz_c61 (IV) 67 [((-2147483648), 2147483647), ((-2147483648), 2147483647), ((-2147483648), 2147483647), ((-2147483648), 2147483647), ((-2147483648), 2147483647)] IV = true := by decide +kernel
set_option maxRecDepth 100000 in
theorem iv_c15 : iv_ck 67 cz_c37 (IV) 0 [((-2147483648), 2147483647), ((-2147483648), 2147483647)] IV = true := by decide +kernel
set_option maxRecDepth 100000 in
theorem iv_m147 : iv_ck 1000 mz_c44 (IV) 67 [((-2147483648), 2147483647), ((-2147483648), 2147483647)] IV = true := by decide +kernel
set_option maxRecDepth 100000 in
theorem iv_c16 : iv_ck 67 cz_c36 (IV) 0 [((-2147483648), 2147483647)] IV = true := by decide +kernel
set_option maxRecDepth 100000 in
theorem iv_m148 : iv_ck 1000 mz_c40 (IV) 67 [((-2147483648), 2147483647)] IV = true := by decide +kernel
set_option maxRecDepth 100000 in
theorem iv_c17 : iv_ck 67 cz_c66 (IV) 0 [((-2147483648), 2147483647), ((-2147483648), 2147483647), ((-2147483648), 2147483647), ((-2147483648), 2147483647), ((-2147483648), 2147483647)] IV = true := by decide +kernel
set_option maxRecDepth 100000 in
theorem iv_m149 : iv_ck 1000 mz_c14 (IV) 67 [((-2147483648), 2147483647), ((-2147483648), 2147483647), ((-2147483648), 2147483647), ((-2147483648), 2147483647), ((-2147483648), 2147483647)] IV = true := by decide +kernel
set_option maxRecDepth 100000 in
theorem iv_c19 : iv_ck 67 cz_c169 (IV) 0 [((-2147483648), 2147483647)] IV = true := by decide +kernel
set_option maxRecDepth 100000 in
theorem iv_c42 : iv_ck 67 cz_c72 (IV) 0 [((-2147483648), 2147483647), ((-2147483648), 2147483647)] IV = true := by decide +kernel
set_option maxRecDepth 100000 in
theorem iv_m172 : iv_ck 1000 mz_c45 (IV) 67 [((-2147483648), 2147483647), ((-2147483648), 2147483647)] IV = true := by decide +kernel
set_option maxRecDepth 100000 in
theorem iv_c47 : iv_ck 67 cz_c129 (IV) 0 [((-2147483648), 2147483647)] IV = true := by decide +kernel
set_option maxRecDepth 100000 in
theorem iv_m175 : iv_ck 1000 mz_c111 (IV) 67 [((-2147483648), 2147483647)] IV = true := by decide +kernel
set_option maxRecDepth 100000 in
theorem iv_c68 : iv_ck 67 cz_c130 (IV) 0 [((-2147483648), 2147483647), ((-2147483648), 2147483647)] IV = true := by decide +kernel
set_option maxRecDepth 100000 in
theorem iv_m198 : iv_ck 1000 mz_c112 (IV) 67 [((-2147483648), 2147483647), ((-2147483648), 2147483647)] IV = true := by decide +kernel
set_option maxRecDepth 100000 in
theorem iv_c71 : iv_ck 67 cz_c118 (IV) 0 [((-2147483648), 2147483647), ((-2147483648), 2147483647)] IV = true := by decide +kernel
set_option maxRecDepth 100000 in
theorem iv_m200_0 : iv_ck 1000 mz_c17 (IV) 67 [((-2147483648), 2147483647), ((-2147483648), (-2147483648))] IV = true := by decide +kernel
set_option maxRecDepth 100000 in
theorem iv_m200_1 : iv_ck 1000 mz_c18 (IV) 67 [((-2147483648), 2147483647), ((-2147483647), (-2147483647))] IV = true := by decide +kernel
set_option maxRecDepth 100000 in
theorem iv_m200_2 : iv_ck 1000 mz_c19 (IV) 67 [((-2147483648), 2147483647), ((-2147483646), (-2147483646))] IV = true := by decide +kernel
set_option maxRecDepth 100000 in
theorem iv_m200_3 : iv_ck 1000 mz_c20 (IV) 67 [((-2147483648), 2147483647), ((-2147483645), (-2147483645))] IV = true := by decide +kernel
set_option maxRecDepth 100000 in
theorem iv_m200_4 : iv_ck 1000 mz_c21 (IV) 67 [((-2147483648), 2147483647), ((-2147483644), (-2147483644))] IV = true := by decide +kernel
set_option maxRecDepth 100000 in
theorem iv_m200_5 : iv_ck 1000 mz_c22 (IV) 67 [((-2147483648), 2147483647), ((-2147483643), (-2147483643))] IV = true := by decide +kernel
set_option maxRecDepth 100000 in
theorem iv_m200_6 : iv_ck 1000 mz_c23 (IV) 67 [((-2147483648), 2147483647), ((-2147483642), (-2147483642))] IV = true := by decide +kernel
set_option maxRecDepth 100000 in
theorem iv_m200_7 : iv_ck 1000 mz_c24 (IV) 67 [((-2147483648), 2147483647), ((-2147483641), (-2147483641))] IV = true := by decide +kernel
set_option maxRecDepth 100000 in
theorem iv_m200_8 : iv_ck 1000 mz_c25 (IV) 67 [((-2147483648), 2147483647), ((-2147483640), (-2147483640))] IV = true := by decide +kernel
set_option maxRecDepth 100000 in
theorem iv_m200_9 : iv_ck 1000 mz_c26 (IV) 67 [((-2147483648), 2147483647), ((-2147483639), (-2147483639))] IV = true := by decide +kernel
set_option maxRecDepth 100000 in
theorem iv_m200_10 : iv_ck 1000 mz_c101 (IV) 67 [((-2147483648), 2147483647), ((-2147483638), 2147483647)] IV = true := by decide +kernel
set_option maxRecDepth 100000 in
theorem iv_c73 : iv_ck 67 cz_c110 (IV) 0 [((-2147483648), 2147483647), ((-2147483648), 2147483647)] IV = true := by decide +kernel
set_option maxRecDepth 100000 in
theorem iv_m201 : iv_ck 1000 mz_c93 (IV) 67 [((-2147483648), 2147483647), ((-2147483648), 2147483647)] IV = true := by decide +kernel
set_option maxRecDepth 100000 in
theorem iv_c74 : iv_ck 67 cz_c71 (IV) 0 [((-2147483648), 2147483647), ((-2147483648), 2147483647)] IV = true := by decide +kernel
set_option maxRecDepth 100000 in
theorem iv_m202 : iv_ck 1000 mz_c73 (IV) 67 [((-2147483648), 2147483647), ((-2147483648), 2147483647)] IV = true := by decide +kernel
set_option maxRecDepth 100000 in
theorem iv_c76 : iv_ck 67 cz_c99 (IV) 0 [((-2147483648), 2147483647)] IV = true := by decide +kernel
set_option maxRecDepth 100000 in
theorem iv_m204_0 : iv_ck 1000 mz_c56 (IV0 2 2) 67 [((-2147483648), 2147483647)] IV = true := by decide +kernel
set_option maxRecDepth 100000 in
theorem iv_m204_1 : iv_ck 1000 mz_c57 (IV0 3 3) 67 [((-2147483648), 2147483647)] IV = true := by decide +kernel
set_option maxRecDepth 100000 in
theorem iv_m204_2 : iv_ck 1000 mz_c58 (IV0 4 4) 67 [((-2147483648), 2147483647)] IV = true := by decide +kernel
set_option maxRecDepth 100000 in
theorem iv_m204_3 : iv_ck 1000 mz_c59 (IV0 5 5) 67 [((-2147483648), 2147483647)] IV = true := by decide +kernel
set_option maxRecDepth 100000 in
theorem iv_m204_4 : iv_ck 1000 mz_c60 (IV0 6 6) 67 [((-2147483648), 2147483647)] IV = true := by decide +kernel
set_option maxRecDepth 100000 in
theorem iv_c80 : iv_ck 67 cz_c87 (IV) 0 [((-2147483648), 2147483647)] IV = true := by decide +kernel
set_option maxRecDepth 100000 in
theorem iv_m208 : iv_ck 1000 mz_c76 (IV) 67 [((-2147483648), 2147483647)] IV = true := by decide +kernel
set_option maxRecDepth 100000 in
theorem iv_c82 : iv_ck 67 cz_c101 (IV) 0 [((-2147483648), 2147483647)] IV = true := by decide +kernel
set_option maxRecDepth 100000 in
theorem iv_m209_0 : iv_ck 1000 mz_c47 (IV0 2 2) 67 [((-2147483648), 2147483647)] IV = true := by decide +kernel
set_option maxRecDepth 100000 in
theorem iv_m209_1 : iv_ck 1000 mz_c48 (IV0 3 3) 67 [((-2147483648), 2147483647)] IV = true := by decide +kernel
set_option maxRecDepth 100000 in
theorem iv_m209_2 : iv_ck 1000 mz_c49 (IV0 4 4) 67 [((-2147483648), 2147483647)] IV = true := by decide +kernel
set_option maxRecDepth 100000 in
theorem iv_m209_3 : iv_ck 1000 mz_c50 (IV0 5 5) 67 [((-2147483648), 2147483647)] IV = true := by decide +kernel
set_option maxRecDepth 100000 in
theorem iv_m209_4 : iv_ck 1000 mz_c51 (IV0 6 6) 67 [((-2147483648), 2147483647)] IV = true := by decide +kernel
set_option maxRecDepth 100000 in
theorem iv_c85 : iv_ck 67 cz_c83 (IV) 0 [] IV = true := by decide +kernel
set_option maxRecDepth 100000 in
theorem iv_m211 : iv_ck 1000 mz_c99 (IV) 67 [] IV = true := by decide +kernel
set_option maxRecDepth 100000 in
theorem iv_c87 : iv_ck 67 cz_c88 (IV) 0 [] IV = true := by decide +kernel
set_option maxRecDepth 100000 in
theorem iv_m214 : iv_ck 1000 mz_c107 (IV) 67 [] IV = true := by decide +kernel
set_option maxRecDepth 100000 in
theorem iv_c90 : iv_ck 67 cz_c89 (IV) 0 [((-2147483648), 2147483647), ((-2147483648), 2147483647)] IV = true := by decide +kernel
set_option maxRecDepth 100000 in
theorem iv_m217 : iv_ck 1000 mz_c106 (IV) 67 [((-2147483648), 2147483647), ((-2147483648), 2147483647)] IV = true := by decide +kernel
set_option maxRecDepth 100000 in
theorem iv_c93 : iv_ck 67 cz_c86 (IV) 0 [] IV = true := by decide +kernel
set_option maxRecDepth 100000 in
theorem iv_m220 : iv_ck 1000 mz_c103 (IV) 67 [] IV = true := by decide +kernel
set_option maxRecDepth 100000 in
theorem iv_c95 : iv_ck 67 cz_c139 (IV) 0 [((-2147483648), 2147483647)] IV = true := by decide +kernel
set_option maxRecDepth 100000 in
theorem iv_c99 : iv_ck 67 cz_c84 (IV) 0 [((-2147483648), 2147483647), ((-2147483648), 2147483647)] IV = true := by decide +kernel
set_option maxRecDepth 100000 in
theorem iv_c103 : iv_ck 67 cz_c100 (IV) 0 [((-2147483648), 2147483647), ((-2147483648), 2147483647)] IV = true := by decide +kernel
set_option maxRecDepth 100000 in
theorem iv_m228 : iv_ck 1000 mz_c104 (IV) 67 [((-2147483648), 2147483647), ((-2147483648), 2147483647)] IV = true := by decide +kernel
set_option maxRecDepth 100000 in
theorem iv_c111 : iv_ck 67 cz_c112 (IV) 0 [((-2147483648), 2147483647), ((-2147483648), 2147483647)] IV = true := by decide +kernel
set_option maxRecDepth 100000 in
theorem iv_m232_0 : iv_ck 1000 mz_c94 (IV0 2 2) 67 [((-2147483648), 2147483647), ((-2147483648), 2147483647)] IV = true := by decide +kernel
set_option maxRecDepth 100000 in
theorem iv_m232_1 : iv_ck 1000 mz_c95 (IV0 3 3) 67 [((-2147483648), 2147483647), ((-2147483648), 2147483647)] IV = true := by decide +kernel
set_option maxRecDepth 100000 in
theorem iv_m232_2 : iv_ck 1000 mz_c96 (IV0 4 4) 67 [((-2147483648), 2147483647), ((-2147483648), 2147483647)] IV = true := by decide +kernel
set_option maxRecDepth 100000 in
theorem iv_m232_3 : iv_ck 1000 mz_c97 (IV0 5 5) 67 [((-2147483648), 2147483647), ((-2147483648), 2147483647)] IV = true := by decide +kernel
set_option maxRecDepth 100000 in
theorem iv_m232_4 : iv_ck 1000 mz_c98 (IV0 6 6) 67 [((-2147483648), 2147483647), ((-2147483648), 2147483647)] IV = true := by decide +kernel
set_option maxRecDepth 100000 in
theorem iv_c114 : iv_ck 67 cz_c109 (IV) 0 [((-2147483648), 2147483647), ((-2147483648), 2147483647)] IV = true := by decide +kernel
set_option maxRecDepth 100000 in
theorem iv_c120 : iv_ck 67 cz_c111 (IV) 0 [((-2147483648), 2147483647), ((-2147483648), 2147483647)] IV = true := by decide +kernel
set_option maxRecDepth 100000 in
theorem iv_m235_0 : iv_ck 1000 mz_c79 (IV0 2 2) 67 [((-2147483648), 2147483647), ((-2147483648), 2147483647)] IV = true := by decide +kernel
set_option maxRecDepth 100000 in
theorem iv_m235_1 : iv_ck 1000 mz_c80 (IV0 3 3) 67 [((-2147483648), 2147483647), ((-2147483648), 2147483647)] IV = true := by decide +kernel
set_option maxRecDepth 100000 in
theorem iv_m235_2 : iv_ck 1000 mz_c81 (IV0 4 4) 67 [((-2147483648), 2147483647), ((-2147483648), 2147483647)] IV = true := by decide +kernel
set_option maxRecDepth 100000 in
theorem iv_m235_3 : iv_ck 1000 mz_c82 (IV0 5 5) 67 [((-2147483648), 2147483647), ((-2147483648), 2147483647)] IV = true := by decide +kernel
set_option maxRecDepth 100000 in
theorem iv_m235_4 : iv_ck 1000 mz_c83 (IV0 6 6) 67 [((-2147483648), 2147483647), ((-2147483648), 2147483647)] IV = true := by decide +kernel
set_option maxRecDepth 100000 in
theorem iv_c122 : iv_ck 67 cz_c108 (IV) 0 [((-2147483648), 2147483647)] IV = true := by decide +kernel
set_option maxRecDepth 100000 in
theorem iv_m236 : iv_ck 1000 mz_c90 (IV) 67 [((-2147483648), 2147483647)] IV = true := by decide +kernel
set_option maxRecDepth 100000 in
theorem iv_c124 : iv_ck 67 cz_c119 (IV) 0 [((-2147483648), 2147483647)] IV = true := by decide +kernel
set_option maxRecDepth 100000 in
theorem iv_m237 : iv_ck 1000 mz_c105 (IV) 67 [((-2147483648), 2147483647)] IV = true := by decide +kernel
set_option maxRecDepth 100000 in
theorem iv_c126 : iv_ck 67 cz_c128 (IV) 0 [((-2147483648), 2147483647), ((-2147483648), 2147483647)] IV = true := by decide +kernel
set_option maxRecDepth 100000 in
theorem iv_m238 : iv_ck 1000 mz_c109 (IV) 67 [((-2147483648), 2147483647), ((-2147483648), 2147483647)] IV = true := by decide +kernel
set_option maxRecDepth 100000 in
theorem iv_c127 : iv_ck 67 cz_c69 (IV) 0 [((-2147483648), 2147483647), ((-2147483648), 2147483647)] IV = true := by decide +kernel
set_option maxRecDepth 100000 in
theorem iv_m239 : iv_ck 1000 mz_c69 (IV) 67 [((-2147483648), 2147483647), ((-2147483648), 2147483647)] IV = true := by decide +kernel
set_option maxRecDepth 100000 in
theorem iv_c128 : iv_ck 67 cz_c85 (IV) 0 [((-2147483648), 2147483647)] IV = true := by decide +kernel
set_option maxRecDepth 100000 in
theorem iv_m240 : iv_ck 1000 mz_c74 (IV) 67 [((-2147483648), 2147483647)] IV = true := by decide +kernel
set_option maxRecDepth 100000 in
theorem iv_c131 : iv_ck 67 cz_c82 (IV) 0 [((-2147483648), 2147483647)] IV = true := by decide +kernel
set_option maxRecDepth 100000 in
theorem iv_m243 : iv_ck 1000 mz_c85 (IV) 67 [((-2147483648), 2147483647)] IV = true := by decide +kernel
set_option maxRecDepth 100000 in
theorem iv_c134 : iv_ck 67 cz_c39 (IV) 0 [((-2147483648), 2147483647)] IV = true := by decide +kernel
set_option maxRecDepth 100000 in
theorem iv_m246 : iv_ck 1000 mz_c52 (IV) 67 [((-2147483648), 2147483647)] IV = true := by decide +kernel
set_option maxRecDepth 100000 in
theorem iv_c135 : iv_ck 67 cz_c68 (IV) 0 [] IV = true := by decide +kernel
set_option maxRecDepth 100000 in
theorem iv_m247 : iv_ck 1000 mz_c68 (IV) 67 [] IV = true := by decide +kernel
set_option maxRecDepth 100000 in
theorem iv_c136 : iv_ck 67 cz_c73 (IV) 0 [] IV = true := by decide +kernel
set_option maxRecDepth 100000 in
theorem iv_m248 : iv_ck 1000 mz_c84 (IV) 67 [] IV = true := by decide +kernel
set_option maxRecDepth 100000 in
theorem iv_c137 : iv_ck 67 cz_c33 (IV) 0 [((-2147483648), 2147483647)] IV = true := by decide +kernel
set_option maxRecDepth 100000 in
theorem iv_m249 : iv_ck 1000 mz_c8 (IV) 67 [((-2147483648), 2147483647)] IV = true := by decide +kernel
set_option maxRecDepth 100000 in
theorem iv_c138 : iv_ck 67 cz_c65 (IV) 0 [((-2147483648), 2147483647)] IV = true := by decide +kernel
set_option maxRecDepth 100000 in
theorem iv_m250 : iv_ck 1000 mz_c55 (IV) 67 [((-2147483648), 2147483647)] IV = true := by decide +kernel
theorem iv_many {hp : sm_H} (h : ivH IV hp) : ∃ x : Int32, exF hp 67 3 = x ∧ (2 ≤ x.toInt ∧ x.toInt ≤ 6) ∧ ∀ a b : Int, a ≤ x.toInt ∧ x.toInt ≤ b → ivH (IV0 a b) hp := by
  obtain ⟨d, h0, h1, h2⟩ := iv_mid iv_l hp h
  match d, h0, h1, h2 with
  | .inr o, h0, h1, h2 =>
    obtain ⟨x, x0, x1, x2⟩ := iv_midF iv_f o.2 h1.2
    refine ⟨x, ?_, x1, fun a b hab => h2 _ ⟨h1.1, x2 (a, b) hab⟩⟩
    have h0 : hp[67]? = some (.inr o) := h0
    have x0 : o.2[3]? = some (.int x) := x0
    unfold exF
    rw [h0]
    dsimp only
    rw [x0]
  | .inl _, _, h1, _ => exact h1.elim
set_option maxRecDepth 100000 in
theorem iv_sh : shH (iv_H IV []).1 hz_P = true := by decide +kernel
theorem iv_hz {hp : sm_H} (h : ivH IV hp) : hp = hz (exF hp) (exA hp) (exL hp) := by
  obtain ⟨e, e1, e2⟩ := iv_H_ok IV [] [] hp ⟨rfl, fun s b r z => by cases z⟩ h
  exact sh_hz iv_sh e2
theorem iv_len {hp : sm_H} {k n kd : Nat} (h : ivH IV hp) (hP : hz_P[k]? = some (.inl (kd, n))) (hkd : kd ≠ 1) : (exA hp k).length = n := by
  obtain ⟨e, e1, e2⟩ := iv_H_ok IV [] [] hp ⟨rfl, fun s b r z => by cases z⟩ h
  exact sh_len iv_sh e2 hP hkd
/-- a call returns and keeps what holds between calls -/
noncomputable def cRet (μ n k : Nat) : Prop := ∀ (xs : List Int32) (hp : sm_H), xs.length = n → an_WF hp → ivH IV hp → ∃ (r : Int32) (hp' : sm_H), EM 400 μ (.ref k :: xs.map Value.int) hp (some (.int r)) hp' ∧ an_WF hp' ∧ ivH IV hp'
theorem cRet_of {d k n m : Nat} {C : an_Ct} (hC : an_CO d C) (hd : d ≤ 400) (h : iv_ck m C IV k (List.replicate n an_tp) IV = true) : cRet C.1 n k := fun xs hp hl hW hI => by
  obtain ⟨r, hp', m1, m2, m3, -⟩ := iv_ok hC h hW hI (iv_bs_tp xs n hl)
  exact ⟨r, hp', em_up m1 hd, m2, m3⟩

theorem rt_c9 : cRet 9 1 0 := cRet_of (n := 1) (cz_o70) (by decide) iv_c9
theorem rt_m140 : cRet 140 1 67 := cRet_of (n := 1) (mz_o72 mz_KH_ok) (by decide) iv_m140
theorem rt_c12 : cRet 12 5 0 := cRet_of (n := 5) (cz_o67) (by decide) iv_c12
theorem rt_m143 : cRet 143 5 67 := cRet_of (n := 5) (mz_o61 mz_KH_ok) (by decide) iv_m143
theorem rt_c15 : cRet 15 2 0 := cRet_of (n := 2) (cz_o37) (by decide) iv_c15
theorem rt_m147 : cRet 147 2 67 := cRet_of (n := 2) (mz_o44 mz_KH_ok) (by decide) iv_m147
theorem rt_c16 : cRet 16 1 0 := cRet_of (n := 1) (cz_o36) (by decide) iv_c16
theorem rt_m148 : cRet 148 1 67 := cRet_of (n := 1) (mz_o40 mz_KH_ok) (by decide) iv_m148
theorem rt_c17 : cRet 17 5 0 := cRet_of (n := 5) (cz_o66) (by decide) iv_c17
theorem rt_m149 : cRet 149 5 67 := cRet_of (n := 5) (mz_o14 mz_KH_ok) (by decide) iv_m149
theorem rt_c19 : cRet 19 1 0 := cRet_of (n := 1) (cz_o169) (by decide) iv_c19
theorem rt_c42 : cRet 42 2 0 := cRet_of (n := 2) (cz_o72) (by decide) iv_c42
theorem rt_m172 : cRet 172 2 67 := cRet_of (n := 2) (mz_o45 mz_KH_ok) (by decide) iv_m172
theorem rt_c47 : cRet 47 1 0 := cRet_of (n := 1) (cz_o129) (by decide) iv_c47
theorem rt_m175 : cRet 175 1 67 := cRet_of (n := 1) (mz_o111 mz_KH_ok) (by decide) iv_m175
theorem rt_c68 : cRet 68 2 0 := cRet_of (n := 2) (cz_o130) (by decide) iv_c68
theorem rt_m198 : cRet 198 2 67 := cRet_of (n := 2) (mz_o112 mz_KH_ok) (by decide) iv_m198
theorem rt_c71 : cRet 71 2 0 := cRet_of (n := 2) (cz_o118) (by decide) iv_c71
theorem rt_m200 : cRet 200 2 67 := fun xs hp hl hW hI => by
  match xs, hl with
  | [x, y], _ =>
    have t1 := an_top x
    have t2 := an_top y
    have hx : y.toInt = -2147483648 ∨ y.toInt = -2147483647 ∨ y.toInt = -2147483646 ∨ y.toInt = -2147483645 ∨ y.toInt = -2147483644 ∨ y.toInt = -2147483643 ∨ y.toInt = -2147483642 ∨ y.toInt = -2147483641 ∨ y.toInt = -2147483640 ∨ y.toInt = -2147483639 ∨ (-2147483638) ≤ y.toInt := by have := t2.1; omega
    rcases hx with e | e | e | e | e | e | e | e | e | e | e
    · obtain ⟨r, hp', m1, m2, m3, -⟩ := iv_ok (xs := [x, y]) (mz_o17 mz_KH_ok) iv_m200_0 hW hI ⟨t1, ⟨by show (_ : Int) ≤ _; omega, by show _ ≤ (_ : Int); have := t2.2; omega⟩, trivial⟩
      exact ⟨r, hp', em_up m1 (by decide), m2, m3⟩
    · obtain ⟨r, hp', m1, m2, m3, -⟩ := iv_ok (xs := [x, y]) (mz_o18 mz_KH_ok) iv_m200_1 hW hI ⟨t1, ⟨by show (_ : Int) ≤ _; omega, by show _ ≤ (_ : Int); have := t2.2; omega⟩, trivial⟩
      exact ⟨r, hp', em_up m1 (by decide), m2, m3⟩
    · obtain ⟨r, hp', m1, m2, m3, -⟩ := iv_ok (xs := [x, y]) (mz_o19 mz_KH_ok) iv_m200_2 hW hI ⟨t1, ⟨by show (_ : Int) ≤ _; omega, by show _ ≤ (_ : Int); have := t2.2; omega⟩, trivial⟩
      exact ⟨r, hp', em_up m1 (by decide), m2, m3⟩
    · obtain ⟨r, hp', m1, m2, m3, -⟩ := iv_ok (xs := [x, y]) (mz_o20 mz_KH_ok) iv_m200_3 hW hI ⟨t1, ⟨by show (_ : Int) ≤ _; omega, by show _ ≤ (_ : Int); have := t2.2; omega⟩, trivial⟩
      exact ⟨r, hp', em_up m1 (by decide), m2, m3⟩
    · obtain ⟨r, hp', m1, m2, m3, -⟩ := iv_ok (xs := [x, y]) (mz_o21 mz_KH_ok) iv_m200_4 hW hI ⟨t1, ⟨by show (_ : Int) ≤ _; omega, by show _ ≤ (_ : Int); have := t2.2; omega⟩, trivial⟩
      exact ⟨r, hp', em_up m1 (by decide), m2, m3⟩
    · obtain ⟨r, hp', m1, m2, m3, -⟩ := iv_ok (xs := [x, y]) (mz_o22 mz_KH_ok) iv_m200_5 hW hI ⟨t1, ⟨by show (_ : Int) ≤ _; omega, by show _ ≤ (_ : Int); have := t2.2; omega⟩, trivial⟩
      exact ⟨r, hp', em_up m1 (by decide), m2, m3⟩
    · obtain ⟨r, hp', m1, m2, m3, -⟩ := iv_ok (xs := [x, y]) (mz_o23 mz_KH_ok) iv_m200_6 hW hI ⟨t1, ⟨by show (_ : Int) ≤ _; omega, by show _ ≤ (_ : Int); have := t2.2; omega⟩, trivial⟩
      exact ⟨r, hp', em_up m1 (by decide), m2, m3⟩
    · obtain ⟨r, hp', m1, m2, m3, -⟩ := iv_ok (xs := [x, y]) (mz_o24 mz_KH_ok) iv_m200_7 hW hI ⟨t1, ⟨by show (_ : Int) ≤ _; omega, by show _ ≤ (_ : Int); have := t2.2; omega⟩, trivial⟩
      exact ⟨r, hp', em_up m1 (by decide), m2, m3⟩
    · obtain ⟨r, hp', m1, m2, m3, -⟩ := iv_ok (xs := [x, y]) (mz_o25 mz_KH_ok) iv_m200_8 hW hI ⟨t1, ⟨by show (_ : Int) ≤ _; omega, by show _ ≤ (_ : Int); have := t2.2; omega⟩, trivial⟩
      exact ⟨r, hp', em_up m1 (by decide), m2, m3⟩
    · obtain ⟨r, hp', m1, m2, m3, -⟩ := iv_ok (xs := [x, y]) (mz_o26 mz_KH_ok) iv_m200_9 hW hI ⟨t1, ⟨by show (_ : Int) ≤ _; omega, by show _ ≤ (_ : Int); have := t2.2; omega⟩, trivial⟩
      exact ⟨r, hp', em_up m1 (by decide), m2, m3⟩
    · obtain ⟨r, hp', m1, m2, m3, -⟩ := iv_ok (xs := [x, y]) (mz_o101 mz_KH_ok) iv_m200_10 hW hI ⟨t1, ⟨by show (_ : Int) ≤ _; omega, by show _ ≤ (_ : Int); have := t2.2; omega⟩, trivial⟩
      exact ⟨r, hp', em_up m1 (by decide), m2, m3⟩
  | [], h => cases h
  | [_], h => cases h
  | _ :: _ :: _ :: _, h => cases h
theorem rt_c73 : cRet 73 2 0 := cRet_of (n := 2) (cz_o110) (by decide) iv_c73
theorem rt_m201 : cRet 201 2 67 := cRet_of (n := 2) (mz_o93 mz_KH_ok) (by decide) iv_m201
theorem rt_c74 : cRet 74 2 0 := cRet_of (n := 2) (cz_o71) (by decide) iv_c74
theorem rt_m202 : cRet 202 2 67 := cRet_of (n := 2) (mz_o73 mz_KH_ok) (by decide) iv_m202
theorem rt_c76 : cRet 76 1 0 := cRet_of (n := 1) (cz_o99) (by decide) iv_c76
theorem rt_m204 : cRet 204 1 67 := fun xs hp hl hW hI => by
  obtain ⟨x, -, x1, x2⟩ := iv_many hI
  have hx : x.toInt = 2 ∨ x.toInt = 3 ∨ x.toInt = 4 ∨ x.toInt = 5 ∨ x.toInt = 6 := by omega
  have hb := iv_bs_tp xs 1 hl
  rcases hx with e | e | e | e | e
  · obtain ⟨r, hp', m1, m2, m3, -⟩ := iv_ok (mz_o56 mz_KH_ok) iv_m204_0 hW (x2 2 2 (by omega)) hb
    exact ⟨r, hp', em_up m1 (by decide), m2, m3⟩
  · obtain ⟨r, hp', m1, m2, m3, -⟩ := iv_ok (mz_o57 mz_KH_ok) iv_m204_1 hW (x2 3 3 (by omega)) hb
    exact ⟨r, hp', em_up m1 (by decide), m2, m3⟩
  · obtain ⟨r, hp', m1, m2, m3, -⟩ := iv_ok (mz_o58 mz_KH_ok) iv_m204_2 hW (x2 4 4 (by omega)) hb
    exact ⟨r, hp', em_up m1 (by decide), m2, m3⟩
  · obtain ⟨r, hp', m1, m2, m3, -⟩ := iv_ok (mz_o59 mz_KH_ok) iv_m204_3 hW (x2 5 5 (by omega)) hb
    exact ⟨r, hp', em_up m1 (by decide), m2, m3⟩
  · obtain ⟨r, hp', m1, m2, m3, -⟩ := iv_ok (mz_o60 mz_KH_ok) iv_m204_4 hW (x2 6 6 (by omega)) hb
    exact ⟨r, hp', em_up m1 (by decide), m2, m3⟩
theorem rt_c80 : cRet 80 1 0 := cRet_of (n := 1) (cz_o87) (by decide) iv_c80
theorem rt_m208 : cRet 208 1 67 := cRet_of (n := 1) (mz_o76 mz_KH_ok) (by decide) iv_m208
theorem rt_c82 : cRet 82 1 0 := cRet_of (n := 1) (cz_o101) (by decide) iv_c82
theorem rt_m209 : cRet 209 1 67 := fun xs hp hl hW hI => by
  obtain ⟨x, -, x1, x2⟩ := iv_many hI
  have hx : x.toInt = 2 ∨ x.toInt = 3 ∨ x.toInt = 4 ∨ x.toInt = 5 ∨ x.toInt = 6 := by omega
  have hb := iv_bs_tp xs 1 hl
  rcases hx with e | e | e | e | e
  · obtain ⟨r, hp', m1, m2, m3, -⟩ := iv_ok (mz_o47 mz_KH_ok) iv_m209_0 hW (x2 2 2 (by omega)) hb
    exact ⟨r, hp', em_up m1 (by decide), m2, m3⟩
  · obtain ⟨r, hp', m1, m2, m3, -⟩ := iv_ok (mz_o48 mz_KH_ok) iv_m209_1 hW (x2 3 3 (by omega)) hb
    exact ⟨r, hp', em_up m1 (by decide), m2, m3⟩
  · obtain ⟨r, hp', m1, m2, m3, -⟩ := iv_ok (mz_o49 mz_KH_ok) iv_m209_2 hW (x2 4 4 (by omega)) hb
    exact ⟨r, hp', em_up m1 (by decide), m2, m3⟩
  · obtain ⟨r, hp', m1, m2, m3, -⟩ := iv_ok (mz_o50 mz_KH_ok) iv_m209_3 hW (x2 5 5 (by omega)) hb
    exact ⟨r, hp', em_up m1 (by decide), m2, m3⟩
  · obtain ⟨r, hp', m1, m2, m3, -⟩ := iv_ok (mz_o51 mz_KH_ok) iv_m209_4 hW (x2 6 6 (by omega)) hb
    exact ⟨r, hp', em_up m1 (by decide), m2, m3⟩
theorem rt_c85 : cRet 85 0 0 := cRet_of (n := 0) (cz_o83) (by decide) iv_c85
theorem rt_m211 : cRet 211 0 67 := cRet_of (n := 0) (mz_o99 mz_KH_ok) (by decide) iv_m211
theorem rt_c87 : cRet 87 0 0 := cRet_of (n := 0) (cz_o88) (by decide) iv_c87
theorem rt_m214 : cRet 214 0 67 := cRet_of (n := 0) (mz_o107 mz_KH_ok) (by decide) iv_m214
theorem rt_c90 : cRet 90 2 0 := cRet_of (n := 2) (cz_o89) (by decide) iv_c90
theorem rt_m217 : cRet 217 2 67 := cRet_of (n := 2) (mz_o106 mz_KH_ok) (by decide) iv_m217
theorem rt_c93 : cRet 93 0 0 := cRet_of (n := 0) (cz_o86) (by decide) iv_c93
theorem rt_m220 : cRet 220 0 67 := cRet_of (n := 0) (mz_o103 mz_KH_ok) (by decide) iv_m220
theorem rt_c95 : cRet 95 1 0 := cRet_of (n := 1) (cz_o139) (by decide) iv_c95
theorem rt_c99 : cRet 99 2 0 := cRet_of (n := 2) (cz_o84) (by decide) iv_c99
theorem rt_c103 : cRet 103 2 0 := cRet_of (n := 2) (cz_o100) (by decide) iv_c103
theorem rt_m228 : cRet 228 2 67 := cRet_of (n := 2) (mz_o104 mz_KH_ok) (by decide) iv_m228
theorem rt_c111 : cRet 111 2 0 := cRet_of (n := 2) (cz_o112) (by decide) iv_c111
theorem rt_m232 : cRet 232 2 67 := fun xs hp hl hW hI => by
  obtain ⟨x, -, x1, x2⟩ := iv_many hI
  have hx : x.toInt = 2 ∨ x.toInt = 3 ∨ x.toInt = 4 ∨ x.toInt = 5 ∨ x.toInt = 6 := by omega
  have hb := iv_bs_tp xs 2 hl
  rcases hx with e | e | e | e | e
  · obtain ⟨r, hp', m1, m2, m3, -⟩ := iv_ok (mz_o94 mz_KH_ok) iv_m232_0 hW (x2 2 2 (by omega)) hb
    exact ⟨r, hp', em_up m1 (by decide), m2, m3⟩
  · obtain ⟨r, hp', m1, m2, m3, -⟩ := iv_ok (mz_o95 mz_KH_ok) iv_m232_1 hW (x2 3 3 (by omega)) hb
    exact ⟨r, hp', em_up m1 (by decide), m2, m3⟩
  · obtain ⟨r, hp', m1, m2, m3, -⟩ := iv_ok (mz_o96 mz_KH_ok) iv_m232_2 hW (x2 4 4 (by omega)) hb
    exact ⟨r, hp', em_up m1 (by decide), m2, m3⟩
  · obtain ⟨r, hp', m1, m2, m3, -⟩ := iv_ok (mz_o97 mz_KH_ok) iv_m232_3 hW (x2 5 5 (by omega)) hb
    exact ⟨r, hp', em_up m1 (by decide), m2, m3⟩
  · obtain ⟨r, hp', m1, m2, m3, -⟩ := iv_ok (mz_o98 mz_KH_ok) iv_m232_4 hW (x2 6 6 (by omega)) hb
    exact ⟨r, hp', em_up m1 (by decide), m2, m3⟩
theorem rt_c114 : cRet 114 2 0 := cRet_of (n := 2) (cz_o109) (by decide) iv_c114
theorem rt_c120 : cRet 120 2 0 := cRet_of (n := 2) (cz_o111) (by decide) iv_c120
theorem rt_m235 : cRet 235 2 67 := fun xs hp hl hW hI => by
  obtain ⟨x, -, x1, x2⟩ := iv_many hI
  have hx : x.toInt = 2 ∨ x.toInt = 3 ∨ x.toInt = 4 ∨ x.toInt = 5 ∨ x.toInt = 6 := by omega
  have hb := iv_bs_tp xs 2 hl
  rcases hx with e | e | e | e | e
  · obtain ⟨r, hp', m1, m2, m3, -⟩ := iv_ok (mz_o79 mz_KH_ok) iv_m235_0 hW (x2 2 2 (by omega)) hb
    exact ⟨r, hp', em_up m1 (by decide), m2, m3⟩
  · obtain ⟨r, hp', m1, m2, m3, -⟩ := iv_ok (mz_o80 mz_KH_ok) iv_m235_1 hW (x2 3 3 (by omega)) hb
    exact ⟨r, hp', em_up m1 (by decide), m2, m3⟩
  · obtain ⟨r, hp', m1, m2, m3, -⟩ := iv_ok (mz_o81 mz_KH_ok) iv_m235_2 hW (x2 4 4 (by omega)) hb
    exact ⟨r, hp', em_up m1 (by decide), m2, m3⟩
  · obtain ⟨r, hp', m1, m2, m3, -⟩ := iv_ok (mz_o82 mz_KH_ok) iv_m235_3 hW (x2 5 5 (by omega)) hb
    exact ⟨r, hp', em_up m1 (by decide), m2, m3⟩
  · obtain ⟨r, hp', m1, m2, m3, -⟩ := iv_ok (mz_o83 mz_KH_ok) iv_m235_4 hW (x2 6 6 (by omega)) hb
    exact ⟨r, hp', em_up m1 (by decide), m2, m3⟩
theorem rt_c122 : cRet 122 1 0 := cRet_of (n := 1) (cz_o108) (by decide) iv_c122
theorem rt_m236 : cRet 236 1 67 := cRet_of (n := 1) (mz_o90 mz_KH_ok) (by decide) iv_m236
theorem rt_c124 : cRet 124 1 0 := cRet_of (n := 1) (cz_o119) (by decide) iv_c124
theorem rt_m237 : cRet 237 1 67 := cRet_of (n := 1) (mz_o105 mz_KH_ok) (by decide) iv_m237
theorem rt_c126 : cRet 126 2 0 := cRet_of (n := 2) (cz_o128) (by decide) iv_c126
theorem rt_m238 : cRet 238 2 67 := cRet_of (n := 2) (mz_o109 mz_KH_ok) (by decide) iv_m238
theorem rt_c127 : cRet 127 2 0 := cRet_of (n := 2) (cz_o69) (by decide) iv_c127
theorem rt_m239 : cRet 239 2 67 := cRet_of (n := 2) (mz_o69 mz_KH_ok) (by decide) iv_m239
theorem rt_c128 : cRet 128 1 0 := cRet_of (n := 1) (cz_o85) (by decide) iv_c128
theorem rt_m240 : cRet 240 1 67 := cRet_of (n := 1) (mz_o74 mz_KH_ok) (by decide) iv_m240
theorem rt_c131 : cRet 131 1 0 := cRet_of (n := 1) (cz_o82) (by decide) iv_c131
theorem rt_m243 : cRet 243 1 67 := cRet_of (n := 1) (mz_o85 mz_KH_ok) (by decide) iv_m243
theorem rt_c134 : cRet 134 1 0 := cRet_of (n := 1) (cz_o39) (by decide) iv_c134
theorem rt_m246 : cRet 246 1 67 := cRet_of (n := 1) (mz_o52 mz_KH_ok) (by decide) iv_m246
theorem rt_c135 : cRet 135 0 0 := cRet_of (n := 0) (cz_o68) (by decide) iv_c135
theorem rt_m247 : cRet 247 0 67 := cRet_of (n := 0) (mz_o68 mz_KH_ok) (by decide) iv_m247
theorem rt_c136 : cRet 136 0 0 := cRet_of (n := 0) (cz_o73) (by decide) iv_c136
theorem rt_m248 : cRet 248 0 67 := cRet_of (n := 0) (mz_o84 mz_KH_ok) (by decide) iv_m248
theorem rt_c137 : cRet 137 1 0 := cRet_of (n := 1) (cz_o33) (by decide) iv_c137
theorem rt_m249 : cRet 249 1 67 := cRet_of (n := 1) (mz_o8 mz_KH_ok) (by decide) iv_m249
theorem rt_c138 : cRet 138 1 0 := cRet_of (n := 1) (cz_o65) (by decide) iv_c138
theorem rt_m250 : cRet 250 1 67 := cRet_of (n := 1) (mz_o55 mz_KH_ok) (by decide) iv_m250
