/-! the calls -/
set_option maxRecDepth 100000 in
theorem pg_orders_20 : pw_chk pm_6 (772, 2, 100, 99, 103, 223, true) (pw_as 0 [(3, 3), ((-2147483648), (-1))]) ([(3, 3), ((-2147483648), (-1))], pz_H, []) = true := by decide +kernel
set_option maxRecDepth 100000 in
theorem pg_orders_21 : pw_chk pm_6 (772, 2, 100, 99, 103, 223, true) (pw_as 0 [(3, 3), (0, 1)]) ([(3, 3), (0, 1)], pz_H, []) = true := by decide +kernel
set_option maxRecDepth 100000 in
theorem pg_orders_22 : pw_chk pm_6 (772, 2, 100, 99, 103, 223, true) (pw_as 0 [(3, 3), (2, 3)]) ([(3, 3), (2, 3)], pz_H, []) = true := by decide +kernel
set_option maxRecDepth 100000 in
theorem pg_orders_23 : pw_chk pm_6 (772, 2, 100, 99, 103, 223, true) (pw_as 0 [(3, 3), (4, 9)]) ([(3, 3), (4, 9)], pz_H, []) = true := by decide +kernel
set_option maxRecDepth 100000 in
theorem pg_orders_24 : pw_chk pm_6 (772, 2, 100, 99, 103, 223, true) (pw_as 0 [(3, 3), (10, 10)]) ([(3, 3), (10, 10)], pz_H, []) = true := by decide +kernel
set_option maxRecDepth 100000 in
theorem pg_orders_25 : pw_chk pm_6 (772, 2, 100, 99, 103, 223, true) (pw_as 0 [(3, 3), (11, 2147483647)]) ([(3, 3), (11, 2147483647)], pz_H, []) = true := by decide +kernel
