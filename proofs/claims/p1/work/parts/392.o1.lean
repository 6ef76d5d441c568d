/-! the calls -/
set_option maxRecDepth 100000 in
theorem pg_orders_8 : pw_chk pm_6 (772, 2, 100, 99, 103, 223, true) (pw_as 0 [(1, 1), ((-2147483648), (-1))]) ([(1, 1), ((-2147483648), (-1))], pz_H, []) = true := by decide +kernel
set_option maxRecDepth 100000 in
theorem pg_orders_9 : pw_chk pm_6 (772, 2, 100, 99, 103, 223, true) (pw_as 0 [(1, 1), (0, 1)]) ([(1, 1), (0, 1)], pz_H, []) = true := by decide +kernel
set_option maxRecDepth 100000 in
theorem pg_orders_10 : pw_chk pm_6 (772, 2, 100, 99, 103, 223, true) (pw_as 0 [(1, 1), (2, 3)]) ([(1, 1), (2, 3)], pz_H, []) = true := by decide +kernel
set_option maxRecDepth 100000 in
theorem pg_orders_11 : pw_chk pm_6 (772, 2, 100, 99, 103, 223, true) (pw_as 0 [(1, 1), (4, 9)]) ([(1, 1), (4, 9)], pz_H, []) = true := by decide +kernel
set_option maxRecDepth 100000 in
theorem pg_orders_12 : pw_chk pm_6 (772, 2, 100, 99, 103, 223, true) (pw_as 0 [(1, 1), (10, 10)]) ([(1, 1), (10, 10)], pz_H, []) = true := by decide +kernel
set_option maxRecDepth 100000 in
theorem pg_orders_13 : pw_chk pm_6 (772, 2, 100, 99, 103, 223, true) (pw_as 0 [(1, 1), (11, 2147483647)]) ([(1, 1), (11, 2147483647)], pz_H, []) = true := by decide +kernel
