/-! the calls -/
set_option maxRecDepth 100000 in
theorem pg_guest_0 : pw_chk pl_6 (215, 5, 18, 12, 22, 143, true) (pw_as 0 [((-2147483648), 2147483647), ((-2147483648), 2147483647), ((-2147483648), 2147483647), ((-2147483648), 2147483647), ((-2147483648), 2147483647)]) ([((-2147483648), 2147483647), ((-2147483648), 2147483647), ((-2147483648), 2147483647), ((-2147483648), 2147483647), ((-2147483648), 2147483647)], pz_H, []) = true := by decide +kernel
theorem pg_guest (as : List Int32) (h : as.length = 5) : lw_good 67 13 (215, 5, 18, 12, 22, 143, true) as lw_h0 (fun _ => True) := by
  match as, h with
  | [x0, x1, x2, x3, x4], _ =>
    obtain ⟨lx0, ux0⟩ := pw_b x0
    obtain ⟨lx1, ux1⟩ := pw_b x1
    obtain ⟨lx2, ux2⟩ := pw_b x2
    obtain ⟨lx3, ux3⟩ := pw_b x3
    obtain ⟨lx4, ux4⟩ := pw_b x4
    exact pw_cell pl_6_ok pz_ok pg_guest_0 ⟨⟨by omega, by omega⟩, ⟨⟨by omega, by omega⟩, ⟨⟨by omega, by omega⟩, ⟨⟨by omega, by omega⟩, ⟨⟨by omega, by omega⟩, trivial⟩⟩⟩⟩⟩
set_option maxRecDepth 100000 in
theorem pg_feed_0 : pw_chk pl_6 (334, 5, 32, 17, 36, 149, true) (pw_as 0 [((-2147483648), 2147483647), ((-2147483648), 2147483647), ((-2147483648), 2147483647), ((-2147483648), 2147483647), ((-2147483648), 2147483647)]) ([((-2147483648), 2147483647), ((-2147483648), 2147483647), ((-2147483648), 2147483647), ((-2147483648), 2147483647), ((-2147483648), 2147483647)], pz_H, []) = true := by decide +kernel
theorem pg_feed (as : List Int32) (h : as.length = 5) : lw_good 67 13 (334, 5, 32, 17, 36, 149, true) as lw_h0 (fun _ => True) := by
  match as, h with
  | [x0, x1, x2, x3, x4], _ =>
    obtain ⟨lx0, ux0⟩ := pw_b x0
    obtain ⟨lx1, ux1⟩ := pw_b x1
    obtain ⟨lx2, ux2⟩ := pw_b x2
    obtain ⟨lx3, ux3⟩ := pw_b x3
    obtain ⟨lx4, ux4⟩ := pw_b x4
    exact pw_cell pl_6_ok pz_ok pg_feed_0 ⟨⟨by omega, by omega⟩, ⟨⟨by omega, by omega⟩, ⟨⟨by omega, by omega⟩, ⟨⟨by omega, by omega⟩, ⟨⟨by omega, by omega⟩, trivial⟩⟩⟩⟩⟩
set_option maxRecDepth 100000 in
theorem pg_firsts_0 : pw_chk pl_6 (608, 1, 67, 76, 70, 204, true) (pw_as 0 [((-2147483648), (-1))]) ([((-2147483648), (-1))], pz_H, []) = true := by decide +kernel
set_option maxRecDepth 100000 in
theorem pg_firsts_1 : pw_chk pl_6 (608, 1, 67, 76, 70, 204, true) (pw_as 0 [(0, 3)]) ([(0, 3)], pz_H, []) = true := by decide +kernel
set_option maxRecDepth 100000 in
theorem pg_firsts_2 : pw_chk pl_6 (608, 1, 67, 76, 70, 204, true) (pw_as 0 [(4, 9)]) ([(4, 9)], pz_H, []) = true := by decide +kernel
set_option maxRecDepth 100000 in
theorem pg_firsts_3 : pw_chk pl_6 (608, 1, 67, 76, 70, 204, true) (pw_as 0 [(10, 10)]) ([(10, 10)], pz_H, []) = true := by decide +kernel
set_option maxRecDepth 100000 in
theorem pg_firsts_4 : pw_chk pl_6 (608, 1, 67, 76, 70, 204, true) (pw_as 0 [(11, 2147483647)]) ([(11, 2147483647)], pz_H, []) = true := by decide +kernel
theorem pg_firsts (as : List Int32) (h : as.length = 1) : lw_good 67 13 (608, 1, 67, 76, 70, 204, true) as lw_h0 (fun _ => True) := by
  match as, h with
  | [x0], _ =>
    obtain ⟨lx0, ux0⟩ := pw_b x0
    rcases (show ((-2147483648) ≤ x0.toInt ∧ x0.toInt ≤ (-1)) ∨ (0 ≤ x0.toInt ∧ x0.toInt ≤ 3) ∨ (4 ≤ x0.toInt ∧ x0.toInt ≤ 9) ∨ (10 ≤ x0.toInt ∧ x0.toInt ≤ 10) ∨ (11 ≤ x0.toInt ∧ x0.toInt ≤ 2147483647) by omega) with z0 | z0 | z0 | z0 | z0
    · skip
      exact pw_cell pl_6_ok pz_ok pg_firsts_0 ⟨⟨by omega, by omega⟩, trivial⟩
    · skip
      exact pw_cell pl_6_ok pz_ok pg_firsts_1 ⟨⟨by omega, by omega⟩, trivial⟩
    · skip
      exact pw_cell pl_6_ok pz_ok pg_firsts_2 ⟨⟨by omega, by omega⟩, trivial⟩
    · skip
      exact pw_cell pl_6_ok pz_ok pg_firsts_3 ⟨⟨by omega, by omega⟩, trivial⟩
    · skip
      exact pw_cell pl_6_ok pz_ok pg_firsts_4 ⟨⟨by omega, by omega⟩, trivial⟩
set_option maxRecDepth 100000 in
theorem pg_points_0 : pw_chk pl_6 (631, 1, 71, 80, 74, 208, true) (pw_as 0 [((-2147483648), (-1))]) ([((-2147483648), (-1))], pz_H, []) = true := by decide +kernel
set_option maxRecDepth 100000 in
theorem pg_points_1 : pw_chk pl_6 (631, 1, 71, 80, 74, 208, true) (pw_as 0 [(0, 3)]) ([(0, 3)], pz_H, []) = true := by decide +kernel
set_option maxRecDepth 100000 in
theorem pg_points_2 : pw_chk pl_6 (631, 1, 71, 80, 74, 208, true) (pw_as 0 [(4, 9)]) ([(4, 9)], pz_H, []) = true := by decide +kernel
set_option maxRecDepth 100000 in
theorem pg_points_3 : pw_chk pl_6 (631, 1, 71, 80, 74, 208, true) (pw_as 0 [(10, 10)]) ([(10, 10)], pz_H, []) = true := by decide +kernel
set_option maxRecDepth 100000 in
theorem pg_points_4 : pw_chk pl_6 (631, 1, 71, 80, 74, 208, true) (pw_as 0 [(11, 2147483647)]) ([(11, 2147483647)], pz_H, []) = true := by decide +kernel
theorem pg_points (as : List Int32) (h : as.length = 1) : lw_good 67 13 (631, 1, 71, 80, 74, 208, true) as lw_h0 (fun _ => True) := by
  match as, h with
  | [x0], _ =>
    obtain ⟨lx0, ux0⟩ := pw_b x0
    rcases (show ((-2147483648) ≤ x0.toInt ∧ x0.toInt ≤ (-1)) ∨ (0 ≤ x0.toInt ∧ x0.toInt ≤ 3) ∨ (4 ≤ x0.toInt ∧ x0.toInt ≤ 9) ∨ (10 ≤ x0.toInt ∧ x0.toInt ≤ 10) ∨ (11 ≤ x0.toInt ∧ x0.toInt ≤ 2147483647) by omega) with z0 | z0 | z0 | z0 | z0
    · skip
      exact pw_cell pl_6_ok pz_ok pg_points_0 ⟨⟨by omega, by omega⟩, trivial⟩
    · skip
      exact pw_cell pl_6_ok pz_ok pg_points_1 ⟨⟨by omega, by omega⟩, trivial⟩
    · skip
      exact pw_cell pl_6_ok pz_ok pg_points_2 ⟨⟨by omega, by omega⟩, trivial⟩
    · skip
      exact pw_cell pl_6_ok pz_ok pg_points_3 ⟨⟨by omega, by omega⟩, trivial⟩
    · skip
      exact pw_cell pl_6_ok pz_ok pg_points_4 ⟨⟨by omega, by omega⟩, trivial⟩
set_option maxRecDepth 100000 in
theorem pg_runOff_0 : pw_chk pl_6 (654, 1, 75, 82, 78, 209, true) (pw_as 0 [((-2147483648), (-1))]) ([((-2147483648), (-1))], pz_H, []) = true := by decide +kernel
set_option maxRecDepth 100000 in
theorem pg_runOff_1 : pw_chk pl_6 (654, 1, 75, 82, 78, 209, true) (pw_as 0 [(0, 2)]) ([(0, 2)], pz_H, []) = true := by decide +kernel
set_option maxRecDepth 100000 in
theorem pg_runOff_2 : pw_chk pl_6 (654, 1, 75, 82, 78, 209, true) (pw_as 0 [(3, 9)]) ([(3, 9)], pz_H, []) = true := by decide +kernel
set_option maxRecDepth 100000 in
theorem pg_runOff_3 : pw_chk pl_6 (654, 1, 75, 82, 78, 209, true) (pw_as 0 [(10, 10)]) ([(10, 10)], pz_H, []) = true := by decide +kernel
set_option maxRecDepth 100000 in
theorem pg_runOff_4 : pw_chk pl_6 (654, 1, 75, 82, 78, 209, true) (pw_as 0 [(11, 2147483647)]) ([(11, 2147483647)], pz_H, []) = true := by decide +kernel
theorem pg_runOff (as : List Int32) (h : as.length = 1) : lw_good 67 13 (654, 1, 75, 82, 78, 209, true) as lw_h0 (fun _ => True) := by
  match as, h with
  | [x0], _ =>
    obtain ⟨lx0, ux0⟩ := pw_b x0
    rcases (show ((-2147483648) ≤ x0.toInt ∧ x0.toInt ≤ (-1)) ∨ (0 ≤ x0.toInt ∧ x0.toInt ≤ 2) ∨ (3 ≤ x0.toInt ∧ x0.toInt ≤ 9) ∨ (10 ≤ x0.toInt ∧ x0.toInt ≤ 10) ∨ (11 ≤ x0.toInt ∧ x0.toInt ≤ 2147483647) by omega) with z0 | z0 | z0 | z0 | z0
    · skip
      exact pw_cell pl_6_ok pz_ok pg_runOff_0 ⟨⟨by omega, by omega⟩, trivial⟩
    · skip
      exact pw_cell pl_6_ok pz_ok pg_runOff_1 ⟨⟨by omega, by omega⟩, trivial⟩
    · skip
      exact pw_cell pl_6_ok pz_ok pg_runOff_2 ⟨⟨by omega, by omega⟩, trivial⟩
    · skip
      exact pw_cell pl_6_ok pz_ok pg_runOff_3 ⟨⟨by omega, by omega⟩, trivial⟩
    · skip
      exact pw_cell pl_6_ok pz_ok pg_runOff_4 ⟨⟨by omega, by omega⟩, trivial⟩
set_option maxRecDepth 100000 in
theorem pg_alike_0 : pw_chk pl_6 (1072, 1, 140, 131, 143, 243, true) (pw_as 0 [((-2147483648), 99)]) ([((-2147483648), 99)], pz_H, []) = true := by decide +kernel
set_option maxRecDepth 100000 in
theorem pg_alike_1 : pw_chk pl_6 (1072, 1, 140, 131, 143, 243, true) (pw_as 0 [(100, 100)]) ([(100, 100)], pz_H, []) = true := by decide +kernel
set_option maxRecDepth 100000 in
theorem pg_alike_2 : pw_chk pl_6 (1072, 1, 140, 131, 143, 243, true) (pw_as 0 [(101, 2147483647)]) ([(101, 2147483647)], pz_H, []) = true := by decide +kernel
theorem pg_alike (as : List Int32) (h : as.length = 1) : lw_good 67 13 (1072, 1, 140, 131, 143, 243, true) as lw_h0 (fun _ => True) := by
  match as, h with
  | [x0], _ =>
    obtain ⟨lx0, ux0⟩ := pw_b x0
    rcases (show ((-2147483648) ≤ x0.toInt ∧ x0.toInt ≤ 99) ∨ (100 ≤ x0.toInt ∧ x0.toInt ≤ 100) ∨ (101 ≤ x0.toInt ∧ x0.toInt ≤ 2147483647) by omega) with z0 | z0 | z0
    · skip
      exact pw_cell pl_6_ok pz_ok pg_alike_0 ⟨⟨by omega, by omega⟩, trivial⟩
    · skip
      exact pw_cell pl_6_ok pz_ok pg_alike_1 ⟨⟨by omega, by omega⟩, trivial⟩
    · skip
      exact pw_cell pl_6_ok pz_ok pg_alike_2 ⟨⟨by omega, by omega⟩, trivial⟩
set_option maxRecDepth 100000 in
theorem pg_sure_0 : pw_chk pl_6 (904, 2, 116, 120, 119, 235, true) (pw_as 0 [((-2147483648), (-1)), ((-2147483648), 2147483647)]) ([((-2147483648), (-1)), ((-2147483648), 2147483647)], pz_H, []) = true := by decide +kernel
set_option maxRecDepth 100000 in
theorem pg_sure_1 : pw_chk pl_6 (904, 2, 116, 120, 119, 235, true) (pw_as 0 [(0, 0), ((-2147483648), 2147483647)]) ([(0, 0), ((-2147483648), 2147483647)], pz_H, []) = true := by decide +kernel
set_option maxRecDepth 100000 in
theorem pg_sure_2 : pw_chk pl_6 (904, 2, 116, 120, 119, 235, true) (pw_as 0 [(1, 2147483647), ((-2147483648), 2147483647)]) ([(1, 2147483647), ((-2147483648), 2147483647)], pz_H, []) = true := by decide +kernel
theorem pg_sure (as : List Int32) (h : as.length = 2) : lw_good 67 13 (904, 2, 116, 120, 119, 235, true) as lw_h0 (fun _ => True) := by
  match as, h with
  | [x0, x1], _ =>
    obtain ⟨lx0, ux0⟩ := pw_b x0
    obtain ⟨lx1, ux1⟩ := pw_b x1
    rcases (show ((-2147483648) ≤ x0.toInt ∧ x0.toInt ≤ (-1)) ∨ (0 ≤ x0.toInt ∧ x0.toInt ≤ 0) ∨ (1 ≤ x0.toInt ∧ x0.toInt ≤ 2147483647) by omega) with z0 | z0 | z0
    · skip
      exact pw_cell pl_6_ok pz_ok pg_sure_0 ⟨⟨by omega, by omega⟩, ⟨⟨by omega, by omega⟩, trivial⟩⟩
    · skip
      exact pw_cell pl_6_ok pz_ok pg_sure_1 ⟨⟨by omega, by omega⟩, ⟨⟨by omega, by omega⟩, trivial⟩⟩
    · skip
      exact pw_cell pl_6_ok pz_ok pg_sure_2 ⟨⟨by omega, by omega⟩, ⟨⟨by omega, by omega⟩, trivial⟩⟩
set_option maxRecDepth 100000 in
theorem pg_wonOver_0 : pw_chk pl_6 (838, 2, 108, 111, 111, 232, true) (pw_as 0 [((-2147483648), 2147483647), ((-2147483648), 2147483647)]) ([((-2147483648), 2147483647), ((-2147483648), 2147483647)], pz_H, []) = true := by decide +kernel
theorem pg_wonOver (as : List Int32) (h : as.length = 2) : lw_good 67 13 (838, 2, 108, 111, 111, 232, true) as lw_h0 (fun _ => True) := by
  match as, h with
  | [x0, x1], _ =>
    obtain ⟨lx0, ux0⟩ := pw_b x0
    obtain ⟨lx1, ux1⟩ := pw_b x1
    exact pw_cell pl_6_ok pz_ok pg_wonOver_0 ⟨⟨by omega, by omega⟩, ⟨⟨by omega, by omega⟩, trivial⟩⟩
set_option maxRecDepth 100000 in
theorem pg_keep_0 : pw_chk pl_6 (1118, 0, 148, 135, 151, 247, true) (pw_as 0 []) ([], pz_H, []) = true := by decide +kernel
theorem pg_keep (as : List Int32) (h : as.length = 0) : lw_good 67 13 (1118, 0, 148, 135, 151, 247, true) as lw_h0 (fun _ => True) := by
  match as, h with
  | [], _ =>
    exact pw_cell pl_6_ok pz_ok pg_keep_0 trivial
set_option maxRecDepth 100000 in
theorem pg_parted_0 : pw_chk pl_6 (1049, 1, 136, 128, 139, 240, true) (pw_as 0 [((-2147483648), 2147483647)]) ([((-2147483648), 2147483647)], pz_H, []) = true := by decide +kernel
theorem pg_parted (as : List Int32) (h : as.length = 1) : lw_good 67 13 (1049, 1, 136, 128, 139, 240, true) as lw_h0 (fun _ => True) := by
  match as, h with
  | [x0], _ =>
    obtain ⟨lx0, ux0⟩ := pw_b x0
    exact pw_cell pl_6_ok pz_ok pg_parted_0 ⟨⟨by omega, by omega⟩, trivial⟩
