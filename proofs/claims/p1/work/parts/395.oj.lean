/-! the calls -/
set_option maxRecDepth 100000 in
theorem pg_orders_0 : pw_chk pm_6 (772, 2, 100, 99, 103, 223, true) (pw_as 0 [((-2147483648), (-1)), ((-2147483648), 2147483647)]) ([((-2147483648), (-1)), ((-2147483648), 2147483647)], pz_H, []) = true := by decide +kernel
set_option maxRecDepth 100000 in
theorem pg_orders_1 : pw_chk pm_6 (772, 2, 100, 99, 103, 223, true) (pw_as 0 [(4, 2147483647), ((-2147483648), 2147483647)]) ([(4, 2147483647), ((-2147483648), 2147483647)], pz_H, []) = true := by decide +kernel
theorem pg_orders (as : List Int32) (h : as.length = 2) : lw_good 67 13 (772, 2, 100, 99, 103, 223, true) as lw_h0 (fun _ => True) := by
  match as, h with
  | [x0, x1], _ =>
    obtain ⟨lx0, ux0⟩ := pw_b x0
    obtain ⟨lx1, ux1⟩ := pw_b x1
    rcases (show ((-2147483648) ≤ x0.toInt ∧ x0.toInt ≤ (-1)) ∨ (4 ≤ x0.toInt ∧ x0.toInt ≤ 2147483647) ∨ (0 ≤ x0.toInt ∧ x0.toInt ≤ 0) ∨ (1 ≤ x0.toInt ∧ x0.toInt ≤ 1) ∨ (2 ≤ x0.toInt ∧ x0.toInt ≤ 2) ∨ (3 ≤ x0.toInt ∧ x0.toInt ≤ 3) by omega) with z0 | z0 | z0 | z0 | z0 | z0
    · skip
      exact pw_cell pm_6_ok pz_ok pg_orders_0 ⟨⟨by omega, by omega⟩, ⟨⟨by omega, by omega⟩, trivial⟩⟩
    · skip
      exact pw_cell pm_6_ok pz_ok pg_orders_1 ⟨⟨by omega, by omega⟩, ⟨⟨by omega, by omega⟩, trivial⟩⟩
    · skip
      rcases (show ((-2147483648) ≤ x1.toInt ∧ x1.toInt ≤ (-1)) ∨ (0 ≤ x1.toInt ∧ x1.toInt ≤ 1) ∨ (2 ≤ x1.toInt ∧ x1.toInt ≤ 3) ∨ (4 ≤ x1.toInt ∧ x1.toInt ≤ 9) ∨ (10 ≤ x1.toInt ∧ x1.toInt ≤ 10) ∨ (11 ≤ x1.toInt ∧ x1.toInt ≤ 2147483647) by omega) with z1 | z1 | z1 | z1 | z1 | z1
      · skip
        exact pw_cell pm_6_ok pz_ok pg_orders_2 ⟨⟨by omega, by omega⟩, ⟨⟨by omega, by omega⟩, trivial⟩⟩
      · skip
        exact pw_cell pm_6_ok pz_ok pg_orders_3 ⟨⟨by omega, by omega⟩, ⟨⟨by omega, by omega⟩, trivial⟩⟩
      · skip
        exact pw_cell pm_6_ok pz_ok pg_orders_4 ⟨⟨by omega, by omega⟩, ⟨⟨by omega, by omega⟩, trivial⟩⟩
      · skip
        exact pw_cell pm_6_ok pz_ok pg_orders_5 ⟨⟨by omega, by omega⟩, ⟨⟨by omega, by omega⟩, trivial⟩⟩
      · skip
        exact pw_cell pm_6_ok pz_ok pg_orders_6 ⟨⟨by omega, by omega⟩, ⟨⟨by omega, by omega⟩, trivial⟩⟩
      · skip
        exact pw_cell pm_6_ok pz_ok pg_orders_7 ⟨⟨by omega, by omega⟩, ⟨⟨by omega, by omega⟩, trivial⟩⟩
    · skip
      rcases (show ((-2147483648) ≤ x1.toInt ∧ x1.toInt ≤ (-1)) ∨ (0 ≤ x1.toInt ∧ x1.toInt ≤ 1) ∨ (2 ≤ x1.toInt ∧ x1.toInt ≤ 3) ∨ (4 ≤ x1.toInt ∧ x1.toInt ≤ 9) ∨ (10 ≤ x1.toInt ∧ x1.toInt ≤ 10) ∨ (11 ≤ x1.toInt ∧ x1.toInt ≤ 2147483647) by omega) with z1 | z1 | z1 | z1 | z1 | z1
      · skip
        exact pw_cell pm_6_ok pz_ok pg_orders_8 ⟨⟨by omega, by omega⟩, ⟨⟨by omega, by omega⟩, trivial⟩⟩
      · skip
        exact pw_cell pm_6_ok pz_ok pg_orders_9 ⟨⟨by omega, by omega⟩, ⟨⟨by omega, by omega⟩, trivial⟩⟩
      · skip
        exact pw_cell pm_6_ok pz_ok pg_orders_10 ⟨⟨by omega, by omega⟩, ⟨⟨by omega, by omega⟩, trivial⟩⟩
      · skip
        exact pw_cell pm_6_ok pz_ok pg_orders_11 ⟨⟨by omega, by omega⟩, ⟨⟨by omega, by omega⟩, trivial⟩⟩
      · skip
        exact pw_cell pm_6_ok pz_ok pg_orders_12 ⟨⟨by omega, by omega⟩, ⟨⟨by omega, by omega⟩, trivial⟩⟩
      · skip
        exact pw_cell pm_6_ok pz_ok pg_orders_13 ⟨⟨by omega, by omega⟩, ⟨⟨by omega, by omega⟩, trivial⟩⟩
    · skip
      rcases (show ((-2147483648) ≤ x1.toInt ∧ x1.toInt ≤ (-1)) ∨ (0 ≤ x1.toInt ∧ x1.toInt ≤ 1) ∨ (2 ≤ x1.toInt ∧ x1.toInt ≤ 3) ∨ (4 ≤ x1.toInt ∧ x1.toInt ≤ 9) ∨ (10 ≤ x1.toInt ∧ x1.toInt ≤ 10) ∨ (11 ≤ x1.toInt ∧ x1.toInt ≤ 2147483647) by omega) with z1 | z1 | z1 | z1 | z1 | z1
      · skip
        exact pw_cell pm_6_ok pz_ok pg_orders_14 ⟨⟨by omega, by omega⟩, ⟨⟨by omega, by omega⟩, trivial⟩⟩
      · skip
        exact pw_cell pm_6_ok pz_ok pg_orders_15 ⟨⟨by omega, by omega⟩, ⟨⟨by omega, by omega⟩, trivial⟩⟩
      · skip
        exact pw_cell pm_6_ok pz_ok pg_orders_16 ⟨⟨by omega, by omega⟩, ⟨⟨by omega, by omega⟩, trivial⟩⟩
      · skip
        exact pw_cell pm_6_ok pz_ok pg_orders_17 ⟨⟨by omega, by omega⟩, ⟨⟨by omega, by omega⟩, trivial⟩⟩
      · skip
        exact pw_cell pm_6_ok pz_ok pg_orders_18 ⟨⟨by omega, by omega⟩, ⟨⟨by omega, by omega⟩, trivial⟩⟩
      · skip
        exact pw_cell pm_6_ok pz_ok pg_orders_19 ⟨⟨by omega, by omega⟩, ⟨⟨by omega, by omega⟩, trivial⟩⟩
    · skip
      rcases (show ((-2147483648) ≤ x1.toInt ∧ x1.toInt ≤ (-1)) ∨ (0 ≤ x1.toInt ∧ x1.toInt ≤ 1) ∨ (2 ≤ x1.toInt ∧ x1.toInt ≤ 3) ∨ (4 ≤ x1.toInt ∧ x1.toInt ≤ 9) ∨ (10 ≤ x1.toInt ∧ x1.toInt ≤ 10) ∨ (11 ≤ x1.toInt ∧ x1.toInt ≤ 2147483647) by omega) with z1 | z1 | z1 | z1 | z1 | z1
      · skip
        exact pw_cell pm_6_ok pz_ok pg_orders_20 ⟨⟨by omega, by omega⟩, ⟨⟨by omega, by omega⟩, trivial⟩⟩
      · skip
        exact pw_cell pm_6_ok pz_ok pg_orders_21 ⟨⟨by omega, by omega⟩, ⟨⟨by omega, by omega⟩, trivial⟩⟩
      · skip
        exact pw_cell pm_6_ok pz_ok pg_orders_22 ⟨⟨by omega, by omega⟩, ⟨⟨by omega, by omega⟩, trivial⟩⟩
      · skip
        exact pw_cell pm_6_ok pz_ok pg_orders_23 ⟨⟨by omega, by omega⟩, ⟨⟨by omega, by omega⟩, trivial⟩⟩
      · skip
        exact pw_cell pm_6_ok pz_ok pg_orders_24 ⟨⟨by omega, by omega⟩, ⟨⟨by omega, by omega⟩, trivial⟩⟩
      · skip
        exact pw_cell pm_6_ok pz_ok pg_orders_25 ⟨⟨by omega, by omega⟩, ⟨⟨by omega, by omega⟩, trivial⟩⟩
