/-! the calls -/
set_option maxRecDepth 100000 in
theorem pg_orders_14 : pw_chk pm_6 (772, 2, 100, 99, 103, 223, true) (pw_as 0 [(2, 2), ((-2147483648), (-1))]) ([(2, 2), ((-2147483648), (-1))], pz_H, []) = true := by decide +kernel
set_option maxRecDepth 100000 in
theorem pg_orders_15 : pw_chk pm_6 (772, 2, 100, 99, 103, 223, true) (pw_as 0 [(2, 2), (0, 1)]) ([(2, 2), (0, 1)], pz_H, []) = true := by decide +kernel
set_option maxRecDepth 100000 in
theorem pg_orders_16 : pw_chk pm_6 (772, 2, 100, 99, 103, 223, true) (pw_as 0 [(2, 2), (2, 3)]) ([(2, 2), (2, 3)], pz_H, []) = true := by decide +kernel
set_option maxRecDepth 100000 in
theorem pg_orders_17 : pw_chk pm_6 (772, 2, 100, 99, 103, 223, true) (pw_as 0 [(2, 2), (4, 9)]) ([(2, 2), (4, 9)], pz_H, []) = true := by decide +kernel
set_option maxRecDepth 100000 in
theorem pg_orders_18 : pw_chk pm_6 (772, 2, 100, 99, 103, 223, true) (pw_as 0 [(2, 2), (10, 10)]) ([(2, 2), (10, 10)], pz_H, []) = true := by decide +kernel
set_option maxRecDepth 100000 in
theorem pg_orders_19 : pw_chk pm_6 (772, 2, 100, 99, 103, 223, true) (pw_as 0 [(2, 2), (11, 2147483647)]) ([(2, 2), (11, 2147483647)], pz_H, []) = true := by decide +kernel
