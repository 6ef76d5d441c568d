/-! the calls -/
set_option maxRecDepth 100000 in
theorem pg_orders_2 : pw_chk pm_6 (772, 2, 100, 99, 103, 223, true) (pw_as 0 [(0, 0), ((-2147483648), (-1))]) ([(0, 0), ((-2147483648), (-1))], pz_H, []) = true := by decide +kernel
set_option maxRecDepth 100000 in
theorem pg_orders_3 : pw_chk pm_6 (772, 2, 100, 99, 103, 223, true) (pw_as 0 [(0, 0), (0, 1)]) ([(0, 0), (0, 1)], pz_H, []) = true := by decide +kernel
set_option maxRecDepth 100000 in
theorem pg_orders_4 : pw_chk pm_6 (772, 2, 100, 99, 103, 223, true) (pw_as 0 [(0, 0), (2, 3)]) ([(0, 0), (2, 3)], pz_H, []) = true := by decide +kernel
set_option maxRecDepth 100000 in
theorem pg_orders_5 : pw_chk pm_6 (772, 2, 100, 99, 103, 223, true) (pw_as 0 [(0, 0), (4, 9)]) ([(0, 0), (4, 9)], pz_H, []) = true := by decide +kernel
set_option maxRecDepth 100000 in
theorem pg_orders_6 : pw_chk pm_6 (772, 2, 100, 99, 103, 223, true) (pw_as 0 [(0, 0), (10, 10)]) ([(0, 0), (10, 10)], pz_H, []) = true := by decide +kernel
set_option maxRecDepth 100000 in
theorem pg_orders_7 : pw_chk pm_6 (772, 2, 100, 99, 103, 223, true) (pw_as 0 [(0, 0), (11, 2147483647)]) ([(0, 0), (11, 2147483647)], pz_H, []) = true := by decide +kernel
