/-! the calls -/
set_option maxRecDepth 100000 in
theorem pg_measures_0 : pw_chk pl_6 (192, 1, 13, 9, 17, 140, true) (pw_as 0 [((-2147483648), 2147483647)]) ([((-2147483648), 2147483647)], pz_H, []) = true := by decide +kernel
theorem pg_measures (as : List Int32) (h : as.length = 1) : lw_good 67 13 (192, 1, 13, 9, 17, 140, true) as lw_h0 (fun _ => True) := by
  match as, h with
  | [x0], _ =>
    obtain ⟨lx0, ux0⟩ := pw_b x0
    exact pw_cell pl_6_ok pz_ok pg_measures_0 ⟨⟨by omega, by omega⟩, trivial⟩
set_option maxRecDepth 100000 in
theorem pg_pot_0 : pw_chk pl_6 (278, 2, 23, 15, 27, 147, true) (pw_as 0 [((-2147483648), 2147483647), ((-2147483648), 2147483647)]) ([((-2147483648), 2147483647), ((-2147483648), 2147483647)], pz_H, []) = true := by decide +kernel
theorem pg_pot (as : List Int32) (h : as.length = 2) : lw_good 67 13 (278, 2, 23, 15, 27, 147, true) as lw_h0 (fun _ => True) := by
  match as, h with
  | [x0, x1], _ =>
    obtain ⟨lx0, ux0⟩ := pw_b x0
    obtain ⟨lx1, ux1⟩ := pw_b x1
    exact pw_cell pl_6_ok pz_ok pg_pot_0 ⟨⟨by omega, by omega⟩, ⟨⟨by omega, by omega⟩, trivial⟩⟩
set_option maxRecDepth 100000 in
theorem pg_mother_0 : pw_chk pl_6 (311, 1, 28, 16, 31, 148, true) (pw_as 0 [((-2147483648), 2147483647)]) ([((-2147483648), 2147483647)], pz_H, []) = true := by decide +kernel
theorem pg_mother (as : List Int32) (h : as.length = 1) : lw_good 67 13 (311, 1, 28, 16, 31, 148, true) as lw_h0 (fun _ => True) := by
  match as, h with
  | [x0], _ =>
    obtain ⟨lx0, ux0⟩ := pw_b x0
    exact pw_cell pl_6_ok pz_ok pg_mother_0 ⟨⟨by omega, by omega⟩, trivial⟩
set_option maxRecDepth 100000 in
theorem pg_law_0 : pw_chk pl_6 (397, 1, 37, 19, 41, 151, true) (pw_as 0 [((-2147483648), 2147483647)]) ([((-2147483648), 2147483647)], pz_H, []) = true := by decide +kernel
theorem pg_law (as : List Int32) (h : as.length = 1) : lw_good 67 13 (397, 1, 37, 19, 41, 151, true) as lw_h0 (fun _ => True) := by
  match as, h with
  | [x0], _ =>
    obtain ⟨lx0, ux0⟩ := pw_b x0
    exact pw_cell pl_6_ok pz_ok pg_law_0 ⟨⟨by omega, by omega⟩, trivial⟩
set_option maxRecDepth 100000 in
theorem pg_ranking_0 : pw_chk pl_6 (420, 2, 42, 42, 46, 172, true) (pw_as 0 [((-2147483648), 2147483647), ((-2147483648), 2147483647)]) ([((-2147483648), 2147483647), ((-2147483648), 2147483647)], pz_H, []) = true := by decide +kernel
theorem pg_ranking (as : List Int32) (h : as.length = 2) : lw_good 67 13 (420, 2, 42, 42, 46, 172, true) as lw_h0 (fun _ => True) := by
  match as, h with
  | [x0, x1], _ =>
    obtain ⟨lx0, ux0⟩ := pw_b x0
    obtain ⟨lx1, ux1⟩ := pw_b x1
    exact pw_cell pl_6_ok pz_ok pg_ranking_0 ⟨⟨by omega, by omega⟩, ⟨⟨by omega, by omega⟩, trivial⟩⟩
set_option maxRecDepth 100000 in
theorem pg_teas_0 : pw_chk pl_6 (453, 1, 47, 47, 50, 175, true) (pw_as 0 [((-2147483648), 2147483647)]) ([((-2147483648), 2147483647)], pz_H, []) = true := by decide +kernel
theorem pg_teas (as : List Int32) (h : as.length = 1) : lw_good 67 13 (453, 1, 47, 47, 50, 175, true) as lw_h0 (fun _ => True) := by
  match as, h with
  | [x0], _ =>
    obtain ⟨lx0, ux0⟩ := pw_b x0
    exact pw_cell pl_6_ok pz_ok pg_teas_0 ⟨⟨by omega, by omega⟩, trivial⟩
set_option maxRecDepth 100000 in
theorem pg_tried_0 : pw_chk pl_6 (476, 2, 51, 68, 54, 198, true) (pw_as 0 [((-2147483648), 2147483647), ((-2147483648), 2147483647)]) ([((-2147483648), 2147483647), ((-2147483648), 2147483647)], pz_H, []) = true := by decide +kernel
theorem pg_tried (as : List Int32) (h : as.length = 2) : lw_good 67 13 (476, 2, 51, 68, 54, 198, true) as lw_h0 (fun _ => True) := by
  match as, h with
  | [x0, x1], _ =>
    obtain ⟨lx0, ux0⟩ := pw_b x0
    obtain ⟨lx1, ux1⟩ := pw_b x1
    exact pw_cell pl_6_ok pz_ok pg_tried_0 ⟨⟨by omega, by omega⟩, ⟨⟨by omega, by omega⟩, trivial⟩⟩
set_option maxRecDepth 100000 in
theorem pg_guestIs_0 : pw_chk pl_6 (509, 2, 55, 71, 58, 200, true) (pw_as 0 [((-2147483648), 2147483647), ((-2147483648), 2147483647)]) ([((-2147483648), 2147483647), ((-2147483648), 2147483647)], pz_H, []) = true := by decide +kernel
theorem pg_guestIs (as : List Int32) (h : as.length = 2) : lw_good 67 13 (509, 2, 55, 71, 58, 200, true) as lw_h0 (fun _ => True) := by
  match as, h with
  | [x0, x1], _ =>
    obtain ⟨lx0, ux0⟩ := pw_b x0
    obtain ⟨lx1, ux1⟩ := pw_b x1
    exact pw_cell pl_6_ok pz_ok pg_guestIs_0 ⟨⟨by omega, by omega⟩, ⟨⟨by omega, by omega⟩, trivial⟩⟩
set_option maxRecDepth 100000 in
theorem pg_likes_0 : pw_chk pl_6 (542, 2, 59, 73, 62, 201, true) (pw_as 0 [((-2147483648), 2147483647), ((-2147483648), 2147483647)]) ([((-2147483648), 2147483647), ((-2147483648), 2147483647)], pz_H, []) = true := by decide +kernel
theorem pg_likes (as : List Int32) (h : as.length = 2) : lw_good 67 13 (542, 2, 59, 73, 62, 201, true) as lw_h0 (fun _ => True) := by
  match as, h with
  | [x0, x1], _ =>
    obtain ⟨lx0, ux0⟩ := pw_b x0
    obtain ⟨lx1, ux1⟩ := pw_b x1
    exact pw_cell pl_6_ok pz_ok pg_likes_0 ⟨⟨by omega, by omega⟩, ⟨⟨by omega, by omega⟩, trivial⟩⟩
set_option maxRecDepth 100000 in
theorem pg_pair_0 : pw_chk pl_6 (575, 2, 63, 74, 66, 202, true) (pw_as 0 [((-2147483648), (-1)), ((-2147483648), 2147483647)]) ([((-2147483648), (-1)), ((-2147483648), 2147483647)], pz_H, []) = true := by decide +kernel
set_option maxRecDepth 100000 in
theorem pg_pair_1 : pw_chk pl_6 (575, 2, 63, 74, 66, 202, true) (pw_as 0 [(4, 2147483647), ((-2147483648), 2147483647)]) ([(4, 2147483647), ((-2147483648), 2147483647)], pz_H, []) = true := by decide +kernel
set_option maxRecDepth 100000 in
theorem pg_pair_2 : pw_chk pl_6 (575, 2, 63, 74, 66, 202, true) (pw_as 0 [(0, 0), ((-2147483648), (-1))]) ([(0, 0), ((-2147483648), (-1))], pz_H, []) = true := by decide +kernel
set_option maxRecDepth 100000 in
theorem pg_pair_3 : pw_chk pl_6 (575, 2, 63, 74, 66, 202, true) (pw_as 0 [(0, 0), (0, 0)]) ([(0, 0), (0, 0)], pz_H, []) = true := by decide +kernel
set_option maxRecDepth 100000 in
theorem pg_pair_4 : pw_chk pl_6 (575, 2, 63, 74, 66, 202, true) (pw_as 0 [(0, 0), (1, 3)]) ([(0, 0), (1, 3)], pz_H, []) = true := by decide +kernel
set_option maxRecDepth 100000 in
theorem pg_pair_5 : pw_chk pl_6 (575, 2, 63, 74, 66, 202, true) (pw_as 0 [(0, 0), (4, 2147483647)]) ([(0, 0), (4, 2147483647)], pz_H, []) = true := by decide +kernel
set_option maxRecDepth 100000 in
theorem pg_pair_6 : pw_chk pl_6 (575, 2, 63, 74, 66, 202, true) (pw_as 0 [(1, 1), ((-2147483648), (-1))]) ([(1, 1), ((-2147483648), (-1))], pz_H, []) = true := by decide +kernel
set_option maxRecDepth 100000 in
theorem pg_pair_7 : pw_chk pl_6 (575, 2, 63, 74, 66, 202, true) (pw_as 0 [(1, 1), (0, 0)]) ([(1, 1), (0, 0)], pz_H, []) = true := by decide +kernel
set_option maxRecDepth 100000 in
theorem pg_pair_8 : pw_chk pl_6 (575, 2, 63, 74, 66, 202, true) (pw_as 0 [(1, 1), (1, 1)]) ([(1, 1), (1, 1)], pz_H, []) = true := by decide +kernel
set_option maxRecDepth 100000 in
theorem pg_pair_9 : pw_chk pl_6 (575, 2, 63, 74, 66, 202, true) (pw_as 0 [(1, 1), (2, 3)]) ([(1, 1), (2, 3)], pz_H, []) = true := by decide +kernel
set_option maxRecDepth 100000 in
theorem pg_pair_10 : pw_chk pl_6 (575, 2, 63, 74, 66, 202, true) (pw_as 0 [(1, 1), (4, 2147483647)]) ([(1, 1), (4, 2147483647)], pz_H, []) = true := by decide +kernel
set_option maxRecDepth 100000 in
theorem pg_pair_11 : pw_chk pl_6 (575, 2, 63, 74, 66, 202, true) (pw_as 0 [(2, 2), ((-2147483648), (-1))]) ([(2, 2), ((-2147483648), (-1))], pz_H, []) = true := by decide +kernel
set_option maxRecDepth 100000 in
theorem pg_pair_12 : pw_chk pl_6 (575, 2, 63, 74, 66, 202, true) (pw_as 0 [(2, 2), (0, 1)]) ([(2, 2), (0, 1)], pz_H, []) = true := by decide +kernel
set_option maxRecDepth 100000 in
theorem pg_pair_13 : pw_chk pl_6 (575, 2, 63, 74, 66, 202, true) (pw_as 0 [(2, 2), (2, 2)]) ([(2, 2), (2, 2)], pz_H, []) = true := by decide +kernel
set_option maxRecDepth 100000 in
theorem pg_pair_14 : pw_chk pl_6 (575, 2, 63, 74, 66, 202, true) (pw_as 0 [(2, 2), (3, 3)]) ([(2, 2), (3, 3)], pz_H, []) = true := by decide +kernel
set_option maxRecDepth 100000 in
theorem pg_pair_15 : pw_chk pl_6 (575, 2, 63, 74, 66, 202, true) (pw_as 0 [(2, 2), (4, 2147483647)]) ([(2, 2), (4, 2147483647)], pz_H, []) = true := by decide +kernel
set_option maxRecDepth 100000 in
theorem pg_pair_16 : pw_chk pl_6 (575, 2, 63, 74, 66, 202, true) (pw_as 0 [(3, 3), ((-2147483648), (-1))]) ([(3, 3), ((-2147483648), (-1))], pz_H, []) = true := by decide +kernel
set_option maxRecDepth 100000 in
theorem pg_pair_17 : pw_chk pl_6 (575, 2, 63, 74, 66, 202, true) (pw_as 0 [(3, 3), (0, 2)]) ([(3, 3), (0, 2)], pz_H, []) = true := by decide +kernel
set_option maxRecDepth 100000 in
theorem pg_pair_18 : pw_chk pl_6 (575, 2, 63, 74, 66, 202, true) (pw_as 0 [(3, 3), (3, 3)]) ([(3, 3), (3, 3)], pz_H, []) = true := by decide +kernel
set_option maxRecDepth 100000 in
theorem pg_pair_19 : pw_chk pl_6 (575, 2, 63, 74, 66, 202, true) (pw_as 0 [(3, 3), (4, 2147483647)]) ([(3, 3), (4, 2147483647)], pz_H, []) = true := by decide +kernel
theorem pg_pair (as : List Int32) (h : as.length = 2) : lw_good 67 13 (575, 2, 63, 74, 66, 202, true) as lw_h0 (fun _ => True) := by
  match as, h with
  | [x0, x1], _ =>
    obtain ⟨lx0, ux0⟩ := pw_b x0
    obtain ⟨lx1, ux1⟩ := pw_b x1
    rcases (show ((-2147483648) ≤ x0.toInt ∧ x0.toInt ≤ (-1)) ∨ (4 ≤ x0.toInt ∧ x0.toInt ≤ 2147483647) ∨ (0 ≤ x0.toInt ∧ x0.toInt ≤ 0) ∨ (1 ≤ x0.toInt ∧ x0.toInt ≤ 1) ∨ (2 ≤ x0.toInt ∧ x0.toInt ≤ 2) ∨ (3 ≤ x0.toInt ∧ x0.toInt ≤ 3) by omega) with z0 | z0 | z0 | z0 | z0 | z0
    · skip
      exact pw_cell pl_6_ok pz_ok pg_pair_0 ⟨⟨by omega, by omega⟩, ⟨⟨by omega, by omega⟩, trivial⟩⟩
    · skip
      exact pw_cell pl_6_ok pz_ok pg_pair_1 ⟨⟨by omega, by omega⟩, ⟨⟨by omega, by omega⟩, trivial⟩⟩
    · skip
      rcases (show ((-2147483648) ≤ x1.toInt ∧ x1.toInt ≤ (-1)) ∨ (0 ≤ x1.toInt ∧ x1.toInt ≤ 0) ∨ (1 ≤ x1.toInt ∧ x1.toInt ≤ 3) ∨ (4 ≤ x1.toInt ∧ x1.toInt ≤ 2147483647) by omega) with z1 | z1 | z1 | z1
      · skip
        exact pw_cell pl_6_ok pz_ok pg_pair_2 ⟨⟨by omega, by omega⟩, ⟨⟨by omega, by omega⟩, trivial⟩⟩
      · skip
        exact pw_cell pl_6_ok pz_ok pg_pair_3 ⟨⟨by omega, by omega⟩, ⟨⟨by omega, by omega⟩, trivial⟩⟩
      · skip
        exact pw_cell pl_6_ok pz_ok pg_pair_4 ⟨⟨by omega, by omega⟩, ⟨⟨by omega, by omega⟩, trivial⟩⟩
      · skip
        exact pw_cell pl_6_ok pz_ok pg_pair_5 ⟨⟨by omega, by omega⟩, ⟨⟨by omega, by omega⟩, trivial⟩⟩
    · skip
      rcases (show ((-2147483648) ≤ x1.toInt ∧ x1.toInt ≤ (-1)) ∨ (0 ≤ x1.toInt ∧ x1.toInt ≤ 0) ∨ (1 ≤ x1.toInt ∧ x1.toInt ≤ 1) ∨ (2 ≤ x1.toInt ∧ x1.toInt ≤ 3) ∨ (4 ≤ x1.toInt ∧ x1.toInt ≤ 2147483647) by omega) with z1 | z1 | z1 | z1 | z1
      · skip
        exact pw_cell pl_6_ok pz_ok pg_pair_6 ⟨⟨by omega, by omega⟩, ⟨⟨by omega, by omega⟩, trivial⟩⟩
      · skip
        exact pw_cell pl_6_ok pz_ok pg_pair_7 ⟨⟨by omega, by omega⟩, ⟨⟨by omega, by omega⟩, trivial⟩⟩
      · skip
        exact pw_cell pl_6_ok pz_ok pg_pair_8 ⟨⟨by omega, by omega⟩, ⟨⟨by omega, by omega⟩, trivial⟩⟩
      · skip
        exact pw_cell pl_6_ok pz_ok pg_pair_9 ⟨⟨by omega, by omega⟩, ⟨⟨by omega, by omega⟩, trivial⟩⟩
      · skip
        exact pw_cell pl_6_ok pz_ok pg_pair_10 ⟨⟨by omega, by omega⟩, ⟨⟨by omega, by omega⟩, trivial⟩⟩
    · skip
      rcases (show ((-2147483648) ≤ x1.toInt ∧ x1.toInt ≤ (-1)) ∨ (0 ≤ x1.toInt ∧ x1.toInt ≤ 1) ∨ (2 ≤ x1.toInt ∧ x1.toInt ≤ 2) ∨ (3 ≤ x1.toInt ∧ x1.toInt ≤ 3) ∨ (4 ≤ x1.toInt ∧ x1.toInt ≤ 2147483647) by omega) with z1 | z1 | z1 | z1 | z1
      · skip
        exact pw_cell pl_6_ok pz_ok pg_pair_11 ⟨⟨by omega, by omega⟩, ⟨⟨by omega, by omega⟩, trivial⟩⟩
      · skip
        exact pw_cell pl_6_ok pz_ok pg_pair_12 ⟨⟨by omega, by omega⟩, ⟨⟨by omega, by omega⟩, trivial⟩⟩
      · skip
        exact pw_cell pl_6_ok pz_ok pg_pair_13 ⟨⟨by omega, by omega⟩, ⟨⟨by omega, by omega⟩, trivial⟩⟩
      · skip
        exact pw_cell pl_6_ok pz_ok pg_pair_14 ⟨⟨by omega, by omega⟩, ⟨⟨by omega, by omega⟩, trivial⟩⟩
      · skip
        exact pw_cell pl_6_ok pz_ok pg_pair_15 ⟨⟨by omega, by omega⟩, ⟨⟨by omega, by omega⟩, trivial⟩⟩
    · skip
      rcases (show ((-2147483648) ≤ x1.toInt ∧ x1.toInt ≤ (-1)) ∨ (0 ≤ x1.toInt ∧ x1.toInt ≤ 2) ∨ (3 ≤ x1.toInt ∧ x1.toInt ≤ 3) ∨ (4 ≤ x1.toInt ∧ x1.toInt ≤ 2147483647) by omega) with z1 | z1 | z1 | z1
      · skip
        exact pw_cell pl_6_ok pz_ok pg_pair_16 ⟨⟨by omega, by omega⟩, ⟨⟨by omega, by omega⟩, trivial⟩⟩
      · skip
        exact pw_cell pl_6_ok pz_ok pg_pair_17 ⟨⟨by omega, by omega⟩, ⟨⟨by omega, by omega⟩, trivial⟩⟩
      · skip
        exact pw_cell pl_6_ok pz_ok pg_pair_18 ⟨⟨by omega, by omega⟩, ⟨⟨by omega, by omega⟩, trivial⟩⟩
      · skip
        exact pw_cell pl_6_ok pz_ok pg_pair_19 ⟨⟨by omega, by omega⟩, ⟨⟨by omega, by omega⟩, trivial⟩⟩
set_option maxRecDepth 100000 in
theorem pg_agenda_0 : pw_chk pl_6 (749, 1, 96, 95, 99, 221, true) (pw_as 0 [((-2147483648), 2147483647)]) ([((-2147483648), 2147483647)], pz_H, []) = true := by decide +kernel
theorem pg_agenda (as : List Int32) (h : as.length = 1) : lw_good 67 13 (749, 1, 96, 95, 99, 221, true) as lw_h0 (fun _ => True) := by
  match as, h with
  | [x0], _ =>
    obtain ⟨lx0, ux0⟩ := pw_b x0
    exact pw_cell pl_6_ok pz_ok pg_agenda_0 ⟨⟨by omega, by omega⟩, trivial⟩
set_option maxRecDepth 100000 in
theorem pg_lie_0 : pw_chk pl_6 (871, 2, 112, 114, 115, 234, true) (pw_as 0 [((-2147483648), 2147483647), ((-2147483648), 2147483647)]) ([((-2147483648), 2147483647), ((-2147483648), 2147483647)], pz_H, []) = true := by decide +kernel
theorem pg_lie (as : List Int32) (h : as.length = 2) : lw_good 67 13 (871, 2, 112, 114, 115, 234, true) as lw_h0 (fun _ => True) := by
  match as, h with
  | [x0, x1], _ =>
    obtain ⟨lx0, ux0⟩ := pw_b x0
    obtain ⟨lx1, ux1⟩ := pw_b x1
    exact pw_cell pl_6_ok pz_ok pg_lie_0 ⟨⟨by omega, by omega⟩, ⟨⟨by omega, by omega⟩, trivial⟩⟩
set_option maxRecDepth 100000 in
theorem pg_cup_0 : pw_chk pl_6 (937, 1, 120, 122, 123, 236, true) (pw_as 0 [((-2147483648), 2147483647)]) ([((-2147483648), 2147483647)], pz_H, []) = true := by decide +kernel
theorem pg_cup (as : List Int32) (h : as.length = 1) : lw_good 67 13 (937, 1, 120, 122, 123, 236, true) as lw_h0 (fun _ => True) := by
  match as, h with
  | [x0], _ =>
    obtain ⟨lx0, ux0⟩ := pw_b x0
    exact pw_cell pl_6_ok pz_ok pg_cup_0 ⟨⟨by omega, by omega⟩, trivial⟩
set_option maxRecDepth 100000 in
theorem pg_where_0 : pw_chk pl_6 (960, 1, 124, 124, 127, 237, true) (pw_as 0 [((-2147483648), 2147483647)]) ([((-2147483648), 2147483647)], pz_H, []) = true := by decide +kernel
theorem pg_where (as : List Int32) (h : as.length = 1) : lw_good 67 13 (960, 1, 124, 124, 127, 237, true) as lw_h0 (fun _ => True) := by
  match as, h with
  | [x0], _ =>
    obtain ⟨lx0, ux0⟩ := pw_b x0
    exact pw_cell pl_6_ok pz_ok pg_where_0 ⟨⟨by omega, by omega⟩, trivial⟩
set_option maxRecDepth 100000 in
theorem pg_end_0 : pw_chk pl_6 (983, 2, 128, 126, 131, 238, true) (pw_as 0 [((-2147483648), 2147483647), ((-2147483648), 2147483647)]) ([((-2147483648), 2147483647), ((-2147483648), 2147483647)], pz_H, []) = true := by decide +kernel
theorem pg_end (as : List Int32) (h : as.length = 2) : lw_good 67 13 (983, 2, 128, 126, 131, 238, true) as lw_h0 (fun _ => True) := by
  match as, h with
  | [x0, x1], _ =>
    obtain ⟨lx0, ux0⟩ := pw_b x0
    obtain ⟨lx1, ux1⟩ := pw_b x1
    exact pw_cell pl_6_ok pz_ok pg_end_0 ⟨⟨by omega, by omega⟩, ⟨⟨by omega, by omega⟩, trivial⟩⟩
set_option maxRecDepth 100000 in
theorem pg_left_0 : pw_chk pl_6 (1016, 2, 132, 127, 135, 239, true) (pw_as 0 [((-2147483648), 2147483647), ((-2147483648), 2147483647)]) ([((-2147483648), 2147483647), ((-2147483648), 2147483647)], pz_H, []) = true := by decide +kernel
theorem pg_left (as : List Int32) (h : as.length = 2) : lw_good 67 13 (1016, 2, 132, 127, 135, 239, true) as lw_h0 (fun _ => True) := by
  match as, h with
  | [x0, x1], _ =>
    obtain ⟨lx0, ux0⟩ := pw_b x0
    obtain ⟨lx1, ux1⟩ := pw_b x1
    exact pw_cell pl_6_ok pz_ok pg_left_0 ⟨⟨by omega, by omega⟩, ⟨⟨by omega, by omega⟩, trivial⟩⟩
set_option maxRecDepth 100000 in
theorem pg_seed_0 : pw_chk pl_6 (1095, 1, 144, 134, 147, 246, true) (pw_as 0 [((-2147483648), 2147483647)]) ([((-2147483648), 2147483647)], pz_H, []) = true := by decide +kernel
theorem pg_seed (as : List Int32) (h : as.length = 1) : lw_good 67 13 (1095, 1, 144, 134, 147, 246, true) as lw_h0 (fun _ => True) := by
  match as, h with
  | [x0], _ =>
    obtain ⟨lx0, ux0⟩ := pw_b x0
    exact pw_cell pl_6_ok pz_ok pg_seed_0 ⟨⟨by omega, by omega⟩, trivial⟩
set_option maxRecDepth 100000 in
theorem pg_undo_0 : pw_chk pl_6 (1131, 0, 152, 136, 156, 248, true) (pw_as 0 []) ([], pz_H, []) = true := by decide +kernel
theorem pg_undo (as : List Int32) (h : as.length = 0) : lw_good 67 13 (1131, 0, 152, 136, 156, 248, true) as lw_h0 (fun _ => True) := by
  match as, h with
  | [], _ =>
    exact pw_cell pl_6_ok pz_ok pg_undo_0 trivial
set_option maxRecDepth 100000 in
theorem pg_check_0 : pw_chk pl_6 (1144, 1, 157, 137, 160, 249, true) (pw_as 0 [((-2147483648), 2147483647)]) ([((-2147483648), 2147483647)], pz_H, []) = true := by decide +kernel
theorem pg_check (as : List Int32) (h : as.length = 1) : lw_good 67 13 (1144, 1, 157, 137, 160, 249, true) as lw_h0 (fun _ => True) := by
  match as, h with
  | [x0], _ =>
    obtain ⟨lx0, ux0⟩ := pw_b x0
    exact pw_cell pl_6_ok pz_ok pg_check_0 ⟨⟨by omega, by omega⟩, trivial⟩
set_option maxRecDepth 100000 in
theorem pg_count_0 : pw_chk pl_6 (1167, 1, 161, 138, 164, 250, true) (pw_as 0 [((-2147483648), 2147483647)]) ([((-2147483648), 2147483647)], pz_H, []) = true := by decide +kernel
theorem pg_count (as : List Int32) (h : as.length = 1) : lw_good 67 13 (1167, 1, 161, 138, 164, 250, true) as lw_h0 (fun _ => True) := by
  match as, h with
  | [x0], _ =>
    obtain ⟨lx0, ux0⟩ := pw_b x0
    exact pw_cell pl_6_ok pz_ok pg_count_0 ⟨⟨by omega, by omega⟩, trivial⟩
