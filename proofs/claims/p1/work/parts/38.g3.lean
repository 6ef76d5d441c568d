/-! the calls -/
set_option maxRecDepth 100000 in
theorem pg_best_0 : pw_chk pl_6 (677, 0, 79, 85, 83, 211, true) (pw_as 0 []) ([], pz_H, []) = true := by decide +kernel
theorem pg_best (as : List Int32) (h : as.length = 0) : lw_good 67 13 (677, 0, 79, 85, 83, 211, true) as lw_h0 (fun _ => True) := by
  match as, h with
  | [], _ =>
    exact pw_cell pl_6_ok pz_ok pg_best_0 trivial
set_option maxRecDepth 100000 in
theorem pg_set_0 : pw_chk pl_6 (690, 0, 84, 87, 87, 214, true) (pw_as 0 []) ([], pz_H, []) = true := by decide +kernel
theorem pg_set (as : List Int32) (h : as.length = 0) : lw_good 67 13 (690, 0, 84, 87, 87, 214, true) as lw_h0 (fun _ => True) := by
  match as, h with
  | [], _ =>
    exact pw_cell pl_6_ok pz_ok pg_set_0 trivial
set_option maxRecDepth 100000 in
theorem pg_pathWinners_0 : pw_chk pl_6 (736, 0, 92, 93, 95, 220, true) (pw_as 0 []) ([], pz_H, []) = true := by decide +kernel
theorem pg_pathWinners (as : List Int32) (h : as.length = 0) : lw_good 67 13 (736, 0, 92, 93, 95, 220, true) as lw_h0 (fun _ => True) := by
  match as, h with
  | [], _ =>
    exact pw_cell pl_6_ok pz_ok pg_pathWinners_0 trivial
set_option maxRecDepth 100000 in
theorem pg_power_0 : pw_chk pl_6 (805, 2, 104, 103, 107, 228, true) (pw_as 0 [((-2147483648), (-2)), ((-2147483648), (-1))]) ([((-2147483648), (-2)), ((-2147483648), (-1))], pz_H, []) = true := by decide +kernel
set_option maxRecDepth 100000 in
theorem pg_power_1 : pw_chk pl_6 (805, 2, 104, 103, 107, 228, true) (pw_as 0 [((-2147483648), (-2)), (0, 0)]) ([((-2147483648), (-2)), (0, 0)], pz_H, []) = true := by decide +kernel
set_option maxRecDepth 100000 in
theorem pg_power_2 : pw_chk pl_6 (805, 2, 104, 103, 107, 228, true) (pw_as 0 [((-2147483648), (-2)), (1, 2147483647)]) ([((-2147483648), (-2)), (1, 2147483647)], pz_H, []) = true := by decide +kernel
set_option maxRecDepth 100000 in
theorem pg_power_3 : pw_chk pl_6 (805, 2, 104, 103, 107, 228, true) (pw_as 0 [(0, 2147483647), ((-2147483648), (-1))]) ([(0, 2147483647), ((-2147483648), (-1))], pz_H, []) = true := by decide +kernel
set_option maxRecDepth 100000 in
theorem pg_power_4 : pw_chk pl_6 (805, 2, 104, 103, 107, 228, true) (pw_as 0 [(0, 2147483647), (0, 0)]) ([(0, 2147483647), (0, 0)], pz_H, []) = true := by decide +kernel
set_option maxRecDepth 100000 in
theorem pg_power_5 : pw_chk pl_6 (805, 2, 104, 103, 107, 228, true) (pw_as 0 [(0, 2147483647), (1, 2147483647)]) ([(0, 2147483647), (1, 2147483647)], pz_H, []) = true := by decide +kernel
set_option maxRecDepth 100000 in
theorem pg_power_6 : pw_chk pl_6 (805, 2, 104, 103, 107, 228, true) (pw_as 0 [((-1), (-1)), ((-2147483648), 0)]) ([((-1), (-1)), ((-2147483648), 0)], pz_H, []) = true := by decide +kernel
set_option maxRecDepth 100000 in
theorem pg_power_7 : pw_chk pl_6 (805, 2, 104, 103, 107, 228, true) (pw_as 0 [((-1), (-1)), (1, 1)]) ([((-1), (-1)), (1, 1)], pz_H, []) = true := by decide +kernel
set_option maxRecDepth 100000 in
theorem pg_power_8 : pw_chk pl_6 (805, 2, 104, 103, 107, 228, true) (pw_as 0 [((-1), (-1)), (2, 2)]) ([((-1), (-1)), (2, 2)], pz_H, []) = true := by decide +kernel
set_option maxRecDepth 100000 in
theorem pg_power_9 : pw_chk pl_6 (805, 2, 104, 103, 107, 228, true) (pw_as 0 [((-1), (-1)), (3, 2147483647)]) ([((-1), (-1)), (3, 2147483647)], pz_H, []) = true := by decide +kernel
theorem pg_power (as : List Int32) (h : as.length = 2) : lw_good 67 13 (805, 2, 104, 103, 107, 228, true) as lw_h0 (fun _ => True) := by
  match as, h with
  | [x0, x1], _ =>
    obtain ⟨lx0, ux0⟩ := pw_b x0
    obtain ⟨lx1, ux1⟩ := pw_b x1
    rcases (show ((-2147483648) ≤ x0.toInt ∧ x0.toInt ≤ (-2)) ∨ (0 ≤ x0.toInt ∧ x0.toInt ≤ 2147483647) ∨ ((-1) ≤ x0.toInt ∧ x0.toInt ≤ (-1)) by omega) with z0 | z0 | z0
    · skip
      rcases (show ((-2147483648) ≤ x1.toInt ∧ x1.toInt ≤ (-1)) ∨ (0 ≤ x1.toInt ∧ x1.toInt ≤ 0) ∨ (1 ≤ x1.toInt ∧ x1.toInt ≤ 2147483647) by omega) with z1 | z1 | z1
      · skip
        exact pw_cell pl_6_ok pz_ok pg_power_0 ⟨⟨by omega, by omega⟩, ⟨⟨by omega, by omega⟩, trivial⟩⟩
      · skip
        exact pw_cell pl_6_ok pz_ok pg_power_1 ⟨⟨by omega, by omega⟩, ⟨⟨by omega, by omega⟩, trivial⟩⟩
      · skip
        exact pw_cell pl_6_ok pz_ok pg_power_2 ⟨⟨by omega, by omega⟩, ⟨⟨by omega, by omega⟩, trivial⟩⟩
    · skip
      rcases (show ((-2147483648) ≤ x1.toInt ∧ x1.toInt ≤ (-1)) ∨ (0 ≤ x1.toInt ∧ x1.toInt ≤ 0) ∨ (1 ≤ x1.toInt ∧ x1.toInt ≤ 2147483647) by omega) with z1 | z1 | z1
      · skip
        exact pw_cell pl_6_ok pz_ok pg_power_3 ⟨⟨by omega, by omega⟩, ⟨⟨by omega, by omega⟩, trivial⟩⟩
      · skip
        exact pw_cell pl_6_ok pz_ok pg_power_4 ⟨⟨by omega, by omega⟩, ⟨⟨by omega, by omega⟩, trivial⟩⟩
      · skip
        exact pw_cell pl_6_ok pz_ok pg_power_5 ⟨⟨by omega, by omega⟩, ⟨⟨by omega, by omega⟩, trivial⟩⟩
    · skip
      rcases (show ((-2147483648) ≤ x1.toInt ∧ x1.toInt ≤ 0) ∨ (1 ≤ x1.toInt ∧ x1.toInt ≤ 1) ∨ (2 ≤ x1.toInt ∧ x1.toInt ≤ 2) ∨ (3 ≤ x1.toInt ∧ x1.toInt ≤ 2147483647) by omega) with z1 | z1 | z1 | z1
      · skip
        exact pw_cell pl_6_ok pz_ok pg_power_6 ⟨⟨by omega, by omega⟩, ⟨⟨by omega, by omega⟩, trivial⟩⟩
      · skip
        exact pw_cell pl_6_ok pz_ok pg_power_7 ⟨⟨by omega, by omega⟩, ⟨⟨by omega, by omega⟩, trivial⟩⟩
      · skip
        exact pw_cell pl_6_ok pz_ok pg_power_8 ⟨⟨by omega, by omega⟩, ⟨⟨by omega, by omega⟩, trivial⟩⟩
      · skip
        exact pw_cell pl_6_ok pz_ok pg_power_9 ⟨⟨by omega, by omega⟩, ⟨⟨by omega, by omega⟩, trivial⟩⟩
set_option maxRecDepth 100000 in
theorem pg_widest_0 : pw_chk pl_6 (703, 2, 88, 90, 91, 217, true) (pw_as 0 [((-2147483648), (-1)), ((-2147483648), 2147483647)]) ([((-2147483648), (-1)), ((-2147483648), 2147483647)], pz_H, []) = true := by decide +kernel
set_option maxRecDepth 100000 in
theorem pg_widest_1 : pw_chk pl_6 (703, 2, 88, 90, 91, 217, true) (pw_as 0 [(4, 2147483647), ((-2147483648), 2147483647)]) ([(4, 2147483647), ((-2147483648), 2147483647)], pz_H, []) = true := by decide +kernel
set_option maxRecDepth 100000 in
theorem pg_widest_2 : pw_chk pl_6 (703, 2, 88, 90, 91, 217, true) (pw_as 0 [(0, 0), ((-2147483648), (-1))]) ([(0, 0), ((-2147483648), (-1))], pz_H, []) = true := by decide +kernel
set_option maxRecDepth 100000 in
theorem pg_widest_3 : pw_chk pl_6 (703, 2, 88, 90, 91, 217, true) (pw_as 0 [(0, 0), (0, 0)]) ([(0, 0), (0, 0)], pz_H, []) = true := by decide +kernel
set_option maxRecDepth 100000 in
theorem pg_widest_4 : pw_chk pl_6 (703, 2, 88, 90, 91, 217, true) (pw_as 0 [(0, 0), (1, 3)]) ([(0, 0), (1, 3)], pz_H, []) = true := by decide +kernel
set_option maxRecDepth 100000 in
theorem pg_widest_5 : pw_chk pl_6 (703, 2, 88, 90, 91, 217, true) (pw_as 0 [(0, 0), (4, 2147483647)]) ([(0, 0), (4, 2147483647)], pz_H, []) = true := by decide +kernel
set_option maxRecDepth 100000 in
theorem pg_widest_6 : pw_chk pl_6 (703, 2, 88, 90, 91, 217, true) (pw_as 0 [(1, 1), ((-2147483648), (-1))]) ([(1, 1), ((-2147483648), (-1))], pz_H, []) = true := by decide +kernel
set_option maxRecDepth 100000 in
theorem pg_widest_7 : pw_chk pl_6 (703, 2, 88, 90, 91, 217, true) (pw_as 0 [(1, 1), (0, 0)]) ([(1, 1), (0, 0)], pz_H, []) = true := by decide +kernel
set_option maxRecDepth 100000 in
theorem pg_widest_8 : pw_chk pl_6 (703, 2, 88, 90, 91, 217, true) (pw_as 0 [(1, 1), (1, 1)]) ([(1, 1), (1, 1)], pz_H, []) = true := by decide +kernel
set_option maxRecDepth 100000 in
theorem pg_widest_9 : pw_chk pl_6 (703, 2, 88, 90, 91, 217, true) (pw_as 0 [(1, 1), (2, 3)]) ([(1, 1), (2, 3)], pz_H, []) = true := by decide +kernel
set_option maxRecDepth 100000 in
theorem pg_widest_10 : pw_chk pl_6 (703, 2, 88, 90, 91, 217, true) (pw_as 0 [(1, 1), (4, 2147483647)]) ([(1, 1), (4, 2147483647)], pz_H, []) = true := by decide +kernel
set_option maxRecDepth 100000 in
theorem pg_widest_11 : pw_chk pl_6 (703, 2, 88, 90, 91, 217, true) (pw_as 0 [(2, 2), ((-2147483648), (-1))]) ([(2, 2), ((-2147483648), (-1))], pz_H, []) = true := by decide +kernel
set_option maxRecDepth 100000 in
theorem pg_widest_12 : pw_chk pl_6 (703, 2, 88, 90, 91, 217, true) (pw_as 0 [(2, 2), (0, 1)]) ([(2, 2), (0, 1)], pz_H, []) = true := by decide +kernel
set_option maxRecDepth 100000 in
theorem pg_widest_13 : pw_chk pl_6 (703, 2, 88, 90, 91, 217, true) (pw_as 0 [(2, 2), (2, 2)]) ([(2, 2), (2, 2)], pz_H, []) = true := by decide +kernel
set_option maxRecDepth 100000 in
theorem pg_widest_14 : pw_chk pl_6 (703, 2, 88, 90, 91, 217, true) (pw_as 0 [(2, 2), (3, 3)]) ([(2, 2), (3, 3)], pz_H, []) = true := by decide +kernel
set_option maxRecDepth 100000 in
theorem pg_widest_15 : pw_chk pl_6 (703, 2, 88, 90, 91, 217, true) (pw_as 0 [(2, 2), (4, 2147483647)]) ([(2, 2), (4, 2147483647)], pz_H, []) = true := by decide +kernel
set_option maxRecDepth 100000 in
theorem pg_widest_16 : pw_chk pl_6 (703, 2, 88, 90, 91, 217, true) (pw_as 0 [(3, 3), ((-2147483648), (-1))]) ([(3, 3), ((-2147483648), (-1))], pz_H, []) = true := by decide +kernel
set_option maxRecDepth 100000 in
theorem pg_widest_17 : pw_chk pl_6 (703, 2, 88, 90, 91, 217, true) (pw_as 0 [(3, 3), (0, 2)]) ([(3, 3), (0, 2)], pz_H, []) = true := by decide +kernel
set_option maxRecDepth 100000 in
theorem pg_widest_18 : pw_chk pl_6 (703, 2, 88, 90, 91, 217, true) (pw_as 0 [(3, 3), (3, 3)]) ([(3, 3), (3, 3)], pz_H, []) = true := by decide +kernel
set_option maxRecDepth 100000 in
theorem pg_widest_19 : pw_chk pl_6 (703, 2, 88, 90, 91, 217, true) (pw_as 0 [(3, 3), (4, 2147483647)]) ([(3, 3), (4, 2147483647)], pz_H, []) = true := by decide +kernel
theorem pg_widest (as : List Int32) (h : as.length = 2) : lw_good 67 13 (703, 2, 88, 90, 91, 217, true) as lw_h0 (fun _ => True) := by
  match as, h with
  | [x0, x1], _ =>
    obtain ⟨lx0, ux0⟩ := pw_b x0
    obtain ⟨lx1, ux1⟩ := pw_b x1
    rcases (show ((-2147483648) ≤ x0.toInt ∧ x0.toInt ≤ (-1)) ∨ (4 ≤ x0.toInt ∧ x0.toInt ≤ 2147483647) ∨ (0 ≤ x0.toInt ∧ x0.toInt ≤ 0) ∨ (1 ≤ x0.toInt ∧ x0.toInt ≤ 1) ∨ (2 ≤ x0.toInt ∧ x0.toInt ≤ 2) ∨ (3 ≤ x0.toInt ∧ x0.toInt ≤ 3) by omega) with z0 | z0 | z0 | z0 | z0 | z0
    · skip
      exact pw_cell pl_6_ok pz_ok pg_widest_0 ⟨⟨by omega, by omega⟩, ⟨⟨by omega, by omega⟩, trivial⟩⟩
    · skip
      exact pw_cell pl_6_ok pz_ok pg_widest_1 ⟨⟨by omega, by omega⟩, ⟨⟨by omega, by omega⟩, trivial⟩⟩
    · skip
      rcases (show ((-2147483648) ≤ x1.toInt ∧ x1.toInt ≤ (-1)) ∨ (0 ≤ x1.toInt ∧ x1.toInt ≤ 0) ∨ (1 ≤ x1.toInt ∧ x1.toInt ≤ 3) ∨ (4 ≤ x1.toInt ∧ x1.toInt ≤ 2147483647) by omega) with z1 | z1 | z1 | z1
      · skip
        exact pw_cell pl_6_ok pz_ok pg_widest_2 ⟨⟨by omega, by omega⟩, ⟨⟨by omega, by omega⟩, trivial⟩⟩
      · skip
        exact pw_cell pl_6_ok pz_ok pg_widest_3 ⟨⟨by omega, by omega⟩, ⟨⟨by omega, by omega⟩, trivial⟩⟩
      · skip
        exact pw_cell pl_6_ok pz_ok pg_widest_4 ⟨⟨by omega, by omega⟩, ⟨⟨by omega, by omega⟩, trivial⟩⟩
      · skip
        exact pw_cell pl_6_ok pz_ok pg_widest_5 ⟨⟨by omega, by omega⟩, ⟨⟨by omega, by omega⟩, trivial⟩⟩
    · skip
      rcases (show ((-2147483648) ≤ x1.toInt ∧ x1.toInt ≤ (-1)) ∨ (0 ≤ x1.toInt ∧ x1.toInt ≤ 0) ∨ (1 ≤ x1.toInt ∧ x1.toInt ≤ 1) ∨ (2 ≤ x1.toInt ∧ x1.toInt ≤ 3) ∨ (4 ≤ x1.toInt ∧ x1.toInt ≤ 2147483647) by omega) with z1 | z1 | z1 | z1 | z1
      · skip
        exact pw_cell pl_6_ok pz_ok pg_widest_6 ⟨⟨by omega, by omega⟩, ⟨⟨by omega, by omega⟩, trivial⟩⟩
      · skip
        exact pw_cell pl_6_ok pz_ok pg_widest_7 ⟨⟨by omega, by omega⟩, ⟨⟨by omega, by omega⟩, trivial⟩⟩
      · skip
        exact pw_cell pl_6_ok pz_ok pg_widest_8 ⟨⟨by omega, by omega⟩, ⟨⟨by omega, by omega⟩, trivial⟩⟩
      · skip
        exact pw_cell pl_6_ok pz_ok pg_widest_9 ⟨⟨by omega, by omega⟩, ⟨⟨by omega, by omega⟩, trivial⟩⟩
      · skip
        exact pw_cell pl_6_ok pz_ok pg_widest_10 ⟨⟨by omega, by omega⟩, ⟨⟨by omega, by omega⟩, trivial⟩⟩
    · skip
      rcases (show ((-2147483648) ≤ x1.toInt ∧ x1.toInt ≤ (-1)) ∨ (0 ≤ x1.toInt ∧ x1.toInt ≤ 1) ∨ (2 ≤ x1.toInt ∧ x1.toInt ≤ 2) ∨ (3 ≤ x1.toInt ∧ x1.toInt ≤ 3) ∨ (4 ≤ x1.toInt ∧ x1.toInt ≤ 2147483647) by omega) with z1 | z1 | z1 | z1 | z1
      · skip
        exact pw_cell pl_6_ok pz_ok pg_widest_11 ⟨⟨by omega, by omega⟩, ⟨⟨by omega, by omega⟩, trivial⟩⟩
      · skip
        exact pw_cell pl_6_ok pz_ok pg_widest_12 ⟨⟨by omega, by omega⟩, ⟨⟨by omega, by omega⟩, trivial⟩⟩
      · skip
        exact pw_cell pl_6_ok pz_ok pg_widest_13 ⟨⟨by omega, by omega⟩, ⟨⟨by omega, by omega⟩, trivial⟩⟩
      · skip
        exact pw_cell pl_6_ok pz_ok pg_widest_14 ⟨⟨by omega, by omega⟩, ⟨⟨by omega, by omega⟩, trivial⟩⟩
      · skip
        exact pw_cell pl_6_ok pz_ok pg_widest_15 ⟨⟨by omega, by omega⟩, ⟨⟨by omega, by omega⟩, trivial⟩⟩
    · skip
      rcases (show ((-2147483648) ≤ x1.toInt ∧ x1.toInt ≤ (-1)) ∨ (0 ≤ x1.toInt ∧ x1.toInt ≤ 2) ∨ (3 ≤ x1.toInt ∧ x1.toInt ≤ 3) ∨ (4 ≤ x1.toInt ∧ x1.toInt ≤ 2147483647) by omega) with z1 | z1 | z1 | z1
      · skip
        exact pw_cell pl_6_ok pz_ok pg_widest_16 ⟨⟨by omega, by omega⟩, ⟨⟨by omega, by omega⟩, trivial⟩⟩
      · skip
        exact pw_cell pl_6_ok pz_ok pg_widest_17 ⟨⟨by omega, by omega⟩, ⟨⟨by omega, by omega⟩, trivial⟩⟩
      · skip
        exact pw_cell pl_6_ok pz_ok pg_widest_18 ⟨⟨by omega, by omega⟩, ⟨⟨by omega, by omega⟩, trivial⟩⟩
      · skip
        exact pw_cell pl_6_ok pz_ok pg_widest_19 ⟨⟨by omega, by omega⟩, ⟨⟨by omega, by omega⟩, trivial⟩⟩
