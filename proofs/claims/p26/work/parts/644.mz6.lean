-- teas None
noncomputable def mz_f111 : List an_S := [is_0, is_1, is_2, is_3, is_4, is_5, is_6, is_7, is_8, is_9, is_10, is_11, is_12, is_13, is_14, is_15, is_16, is_17, is_18, is_19, is_20, is_21, is_22, is_23, is_24, is_25, is_26, is_27, is_28, is_30, is_31, is_32, is_33, is_34, is_35, is_36, is_37, is_38, is_39, is_40, is_41, is_42, is_43, is_44, is_45, is_46, is_47, is_48, is_49, is_50, is_59]
noncomputable def mz_c111 : an_Ct := (175, [.inr (.inl 67), .inl (some 0, 0)], ([iq_7, iq_7, iq_7, iq_7, iq_7, iq_7, iq_7, iq_7, iq_7, iq_7, iq_7, iq_7, iq_7, iq_7, iq_7, iq_7, iq_7, iq_7, iq_7, iq_7, iq_7, iq_7, iq_7, iq_7, iq_7, iq_7, iq_7, iq_7, iq_7, iq_7, iq_7, iq_7, iq_7, iq_7, iq_7, iq_7, iq_0, iq_12, iq_13, iq_1, iq_15, iq_11, iq_11, iq_7, iq_7, iq_7, iq_7, iq_7, iq_7, iq_10, iq_7, iq_7], mz_H mz_f111, [], []), some (some ((-2), 60)), [(67, 32, (-2147483648), 2147483647), (67, 33, (-2147483648), 2147483647)], [68, 83, 84, 86, 1003, 1004, 1005, 1008, 1009, 1010, 1011, 1012])
noncomputable def mz_n111 : List an_Nd := []
set_option maxRecDepth 100000 in
theorem mz_k111 : an_ck0 (mz_kd [mz_c110] 3000 5) mz_c111 mm175 mz_n111 3000 = true := by decide +kernel
set_option maxRecDepth 100000 in
theorem mz_m111 : mz_n111.all (an_ckn (mz_kd [mz_c110] 3000 5) mz_c111 mm175 mz_n111 3000) = true := by decide +kernel
theorem mz_o111 (hH : an_KO 40 mz_KH) : an_CO 96 mz_c111 := an_CO_up (an_ck_ok (mz_kd_ok (d := 88) (by decide) hH (an_Ccons (an_CO_up (mz_o110 hH) (by decide)) an_Cnil) 3000 5) rfl (by decide +kernel) mz_k111 (fun n hn => List.all_eq_true.mp mz_m111 n hn)) (by decide)
-- tried None
noncomputable def mz_f112 : List an_S := [is_1, is_2, is_3, is_4, is_5, is_6, is_7, is_8, is_9, is_10, is_11, is_12, is_13, is_14, is_15, is_16, is_17, is_18, is_19, is_20, is_21, is_22, is_23, is_24, is_25, is_26, is_27, is_28, is_30, is_31, is_32, is_33, is_34, is_35, is_36, is_37, is_38, is_39, is_40, is_41, is_42, is_43, is_44, is_45, is_46, is_47, is_48, is_49, is_50, is_59, is_60]
noncomputable def mz_c112 : an_Ct := (198, [.inr (.inl 67), .inl (some 0, 0), .inl (some 1, 0)], ([iq_7, iq_7, iq_7, iq_7, iq_7, iq_7, iq_7, iq_7, iq_7, iq_7, iq_7, iq_7, iq_7, iq_7, iq_7, iq_7, iq_7, iq_7, iq_7, iq_7, iq_7, iq_7, iq_7, iq_7, iq_7, iq_7, iq_7, iq_7, iq_7, iq_7, iq_7, iq_7, iq_7, iq_7, iq_7, iq_7, iq_7, iq_0, iq_12, iq_13, iq_1, iq_15, iq_11, iq_11, iq_7, iq_7, iq_7, iq_7, iq_7, iq_7, iq_10, iq_7, iq_7], mz_H mz_f112, [], []), some (some ((-2147483648), 2147483647)), [(67, 32, (-2147483648), 2147483647), (67, 33, (-2147483648), 2147483647)], [68, 69, 83, 84, 86, 1000, 1001, 1002, 1003, 1004, 1005, 1006, 1007, 1008, 1009, 1010, 1011, 1012, 1020, 1021, 1022, 1023, 1024, 1025, 1026, 1027, 1028, 1029, 1030, 1031, 1032])
noncomputable def mz_n112 : List an_Nd := []
set_option maxRecDepth 100000 in
theorem mz_k112 : an_ck0 (mz_kd [mz_c9, mz_c11, mz_c110] 3000 5) mz_c112 mm198 mz_n112 3000 = true := by decide +kernel
set_option maxRecDepth 100000 in
theorem mz_m112 : mz_n112.all (an_ckn (mz_kd [mz_c9, mz_c11, mz_c110] 3000 5) mz_c112 mm198 mz_n112 3000) = true := by decide +kernel
theorem mz_o112 (hH : an_KO 40 mz_KH) : an_CO 96 mz_c112 := an_CO_up (an_ck_ok (mz_kd_ok (d := 88) (by decide) hH (an_Ccons (an_CO_up (mz_o9 hH) (by decide)) (an_Ccons (an_CO_up (mz_o11 hH) (by decide)) (an_Ccons (an_CO_up (mz_o110 hH) (by decide)) an_Cnil))) 3000 5) rfl (by decide +kernel) mz_k112 (fun n hn => List.all_eq_true.mp mz_m112 n hn)) (by decide)
